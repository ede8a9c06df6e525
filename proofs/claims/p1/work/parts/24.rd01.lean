/-! ===== the roads' runs, 1: written by wip/p1/jroads.py ===== -/
def gLf_4_0 : List gBox := [(((-2147483648), (-1)), ((-2147483648), (-1)), ((-2147483648), 2147483647)), ((0, 2147483647), ((-2147483648), (-1)), ((-2147483648), 2147483647)), (((-2147483648), (-1)), (0, 0), ((-2147483648), 2147483647)), ((0, 2147483647), (0, 0), ((-2147483648), 2147483647)), (((-2147483648), (-1)), (1, 2147483647), ((-2147483648), 2147483647)), ((0, 2147483647), (1, 2147483647), ((-2147483648), 2147483647))]
theorem gRd_4_0 : (gLf_4_0.all (gLok 4)) = true := by decide +kernel
theorem gTt_4 : gTrOk gTk_4 (gLf_4_0) = true := by decide +kernel
theorem gWy_4 {xs : Nat → Int32} (hk : xs 0 &&& 31 = nI 4) : gWay 5 xs := gWay_box hk gTt_4 (List.all_eq_true.mp gRd_4_0)
def gTk_5 : List (Nat × Int) := [(1, 0), (0, 0), (0, 0)]
def gLf_5_0 : List gBox := [(((-2147483648), (-1)), ((-2147483648), 2147483647), ((-2147483648), 2147483647)), ((0, 2147483647), ((-2147483648), 2147483647), ((-2147483648), 2147483647))]
theorem gRd_5_0 : (gLf_5_0.all (gLok 5)) = true := by decide +kernel
theorem gTt_5 : gTrOk gTk_5 (gLf_5_0) = true := by decide +kernel
theorem gWy_5 {xs : Nat → Int32} (hk : xs 0 &&& 31 = nI 5) : gWay 5 xs := gWay_box hk gTt_5 (List.all_eq_true.mp gRd_5_0)
def gTk_6 : List (Nat × Int) := [(1, 0), (0, 0), (0, 0)]
def gLf_6_0 : List gBox := [(((-2147483648), (-1)), ((-2147483648), 2147483647), ((-2147483648), 2147483647)), ((0, 2147483647), ((-2147483648), 2147483647), ((-2147483648), 2147483647))]
theorem gRd_6_0 : (gLf_6_0.all (gLok 6)) = true := by decide +kernel
theorem gTt_6 : gTrOk gTk_6 (gLf_6_0) = true := by decide +kernel
theorem gWy_6 {xs : Nat → Int32} (hk : xs 0 &&& 31 = nI 6) : gWay 5 xs := gWay_box hk gTt_6 (List.all_eq_true.mp gRd_6_0)
def gTk_7 : List (Nat × Int) := [(1, 0), (0, 0), (1, 1), (0, 0), (0, 0)]
def gLf_7_0 : List gBox := [(((-2147483648), (-1)), ((-2147483648), 2147483647), ((-2147483648), 2147483647)), ((0, 0), ((-2147483648), 2147483647), ((-2147483648), 2147483647)), ((1, 2147483647), ((-2147483648), 2147483647), ((-2147483648), 2147483647))]
theorem gRd_7_0 : (gLf_7_0.all (gLok 7)) = true := by decide +kernel
theorem gTt_7 : gTrOk gTk_7 (gLf_7_0) = true := by decide +kernel
theorem gWy_7 {xs : Nat → Int32} (hk : xs 0 &&& 31 = nI 7) : gWay 5 xs := gWay_box hk gTt_7 (List.all_eq_true.mp gRd_7_0)
def gTk_8 : List (Nat × Int) := [(1, 0), (0, 0), (0, 0)]
def gLf_8_0 : List gBox := [(((-2147483648), (-1)), ((-2147483648), 2147483647), ((-2147483648), 2147483647)), ((0, 2147483647), ((-2147483648), 2147483647), ((-2147483648), 2147483647))]
theorem gRd_8_0 : (gLf_8_0.all (gLok 8)) = true := by decide +kernel
theorem gTt_8 : gTrOk gTk_8 (gLf_8_0) = true := by decide +kernel
theorem gWy_8 {xs : Nat → Int32} (hk : xs 0 &&& 31 = nI 8) : gWay 5 xs := gWay_box hk gTt_8 (List.all_eq_true.mp gRd_8_0)
def gTk_9 : List (Nat × Int) := [(1, 0), (0, 0), (0, 0)]
def gLf_9_0 : List gBox := [(((-2147483648), (-1)), ((-2147483648), 2147483647), ((-2147483648), 2147483647)), ((0, 2147483647), ((-2147483648), 2147483647), ((-2147483648), 2147483647))]
theorem gRd_9_0 : (gLf_9_0.all (gLok 9)) = true := by decide +kernel
theorem gTt_9 : gTrOk gTk_9 (gLf_9_0) = true := by decide +kernel
theorem gWy_9 {xs : Nat → Int32} (hk : xs 0 &&& 31 = nI 9) : gWay 5 xs := gWay_box hk gTt_9 (List.all_eq_true.mp gRd_9_0)
def gTk_10 : List (Nat × Int) := [(1, 0), (0, 0), (1, 3), (0, 0), (0, 0)]
def gLf_10_0 : List gBox := [(((-2147483648), (-1)), ((-2147483648), 2147483647), ((-2147483648), 2147483647)), ((0, 2), ((-2147483648), 2147483647), ((-2147483648), 2147483647)), ((3, 2147483647), ((-2147483648), 2147483647), ((-2147483648), 2147483647))]
theorem gRd_10_0 : (gLf_10_0.all (gLok 10)) = true := by decide +kernel
theorem gTt_10 : gTrOk gTk_10 (gLf_10_0) = true := by decide +kernel
theorem gWy_10 {xs : Nat → Int32} (hk : xs 0 &&& 31 = nI 10) : gWay 5 xs := gWay_box hk gTt_10 (List.all_eq_true.mp gRd_10_0)
def gTk_11 : List (Nat × Int) := [(1, 0), (0, 0), (0, 0)]
def gLf_11_0 : List gBox := [(((-2147483648), (-1)), ((-2147483648), 2147483647), ((-2147483648), 2147483647)), ((0, 2147483647), ((-2147483648), 2147483647), ((-2147483648), 2147483647))]
theorem gRd_11_0 : (gLf_11_0.all (gLok 11)) = true := by decide +kernel
theorem gTt_11 : gTrOk gTk_11 (gLf_11_0) = true := by decide +kernel
theorem gWy_11 {xs : Nat → Int32} (hk : xs 0 &&& 31 = nI 11) : gWay 5 xs := gWay_box hk gTt_11 (List.all_eq_true.mp gRd_11_0)
def gTk_12 : List (Nat × Int) := [(1, 0), (0, 0), (0, 0)]
def gLf_12_0 : List gBox := [(((-2147483648), (-1)), ((-2147483648), 2147483647), ((-2147483648), 2147483647)), ((0, 2147483647), ((-2147483648), 2147483647), ((-2147483648), 2147483647))]
theorem gRd_12_0 : (gLf_12_0.all (gLok 12)) = true := by decide +kernel
theorem gTt_12 : gTrOk gTk_12 (gLf_12_0) = true := by decide +kernel
theorem gWy_12 {xs : Nat → Int32} (hk : xs 0 &&& 31 = nI 12) : gWay 5 xs := gWay_box hk gTt_12 (List.all_eq_true.mp gRd_12_0)
def gTk_13 : List (Nat × Int) := [(1, 1), (0, 0), (1, 21), (0, 0), (0, 0)]
def gLf_13_0 : List gBox := [(((-2147483648), 0), ((-2147483648), 2147483647), ((-2147483648), 2147483647)), ((1, 20), ((-2147483648), 2147483647), ((-2147483648), 2147483647)), ((21, 2147483647), ((-2147483648), 2147483647), ((-2147483648), 2147483647))]
theorem gRd_13_0 : (gLf_13_0.all (gLok 13)) = true := by decide +kernel
theorem gTt_13 : gTrOk gTk_13 (gLf_13_0) = true := by decide +kernel
theorem gWy_13 {xs : Nat → Int32} (hk : xs 0 &&& 31 = nI 13) : gWay 5 xs := gWay_box hk gTt_13 (List.all_eq_true.mp gRd_13_0)
def gTk_14 : List (Nat × Int) := [(1, 1), (0, 0), (1, 41), (0, 0), (0, 0)]
def gLf_14_0 : List gBox := [(((-2147483648), 0), ((-2147483648), 2147483647), ((-2147483648), 2147483647)), ((1, 40), ((-2147483648), 2147483647), ((-2147483648), 2147483647)), ((41, 2147483647), ((-2147483648), 2147483647), ((-2147483648), 2147483647))]
theorem gRd_14_0 : (gLf_14_0.all (gLok 14)) = true := by decide +kernel
theorem gTt_14 : gTrOk gTk_14 (gLf_14_0) = true := by decide +kernel
theorem gWy_14 {xs : Nat → Int32} (hk : xs 0 &&& 31 = nI 14) : gWay 5 xs := gWay_box hk gTt_14 (List.all_eq_true.mp gRd_14_0)
def gTk_15 : List (Nat × Int) := [(1, 0), (0, 0), (0, 0)]
def gLf_15_0 : List gBox := [(((-2147483648), (-1)), ((-2147483648), 2147483647), ((-2147483648), 2147483647)), ((0, 2147483647), ((-2147483648), 2147483647), ((-2147483648), 2147483647))]
theorem gRd_15_0 : (gLf_15_0.all (gLok 15)) = true := by decide +kernel
theorem gTt_15 : gTrOk gTk_15 (gLf_15_0) = true := by decide +kernel
theorem gWy_15 {xs : Nat → Int32} (hk : xs 0 &&& 31 = nI 15) : gWay 5 xs := gWay_box hk gTt_15 (List.all_eq_true.mp gRd_15_0)
def gTk_16 : List (Nat × Int) := [(1, 0), (0, 0), (0, 0)]
def gLf_16_0 : List gBox := [(((-2147483648), (-1)), ((-2147483648), 2147483647), ((-2147483648), 2147483647)), ((0, 2147483647), ((-2147483648), 2147483647), ((-2147483648), 2147483647))]
theorem gRd_16_0 : (gLf_16_0.all (gLok 16)) = true := by decide +kernel
theorem gTt_16 : gTrOk gTk_16 (gLf_16_0) = true := by decide +kernel
theorem gWy_16 {xs : Nat → Int32} (hk : xs 0 &&& 31 = nI 16) : gWay 5 xs := gWay_box hk gTt_16 (List.all_eq_true.mp gRd_16_0)
def gTk_17 : List (Nat × Int) := [(1, 0), (0, 0), (0, 0)]
def gLf_17_0 : List gBox := [(((-2147483648), (-1)), ((-2147483648), 2147483647), ((-2147483648), 2147483647)), ((0, 2147483647), ((-2147483648), 2147483647), ((-2147483648), 2147483647))]
theorem gRd_17_0 : (gLf_17_0.all (gLok 17)) = true := by decide +kernel
theorem gTt_17 : gTrOk gTk_17 (gLf_17_0) = true := by decide +kernel
theorem gWy_17 {xs : Nat → Int32} (hk : xs 0 &&& 31 = nI 17) : gWay 5 xs := gWay_box hk gTt_17 (List.all_eq_true.mp gRd_17_0)
def gTk_18 : List (Nat × Int) := [(1, 0), (0, 0), (1, 3), (1, 1), (0, 0), (1, 2), (0, 0), (0, 0), (0, 0)]
def gLf_18_0 : List gBox := [(((-2147483648), (-1)), ((-2147483648), 2147483647), ((-2147483648), 2147483647)), ((0, 0), ((-2147483648), 2147483647), ((-2147483648), 2147483647))]
theorem gRd_18_0 : (gLf_18_0.all (gLok 18)) = true := by decide +kernel
def gLf_18_1 : List gBox := [((1, 1), ((-2147483648), 2147483647), ((-2147483648), 2147483647))]
theorem gRd_18_1 : (gLf_18_1.all (gLok 18)) = true := by decide +kernel
def gLf_18_2 : List gBox := [((2, 2), ((-2147483648), 2147483647), ((-2147483648), 2147483647))]
theorem gRd_18_2 : (gLf_18_2.all (gLok 18)) = true := by decide +kernel
def gLf_18_3 : List gBox := [((3, 2147483647), ((-2147483648), 2147483647), ((-2147483648), 2147483647))]
theorem gRd_18_3 : (gLf_18_3.all (gLok 18)) = true := by decide +kernel
theorem gTt_18 : gTrOk gTk_18 (gLf_18_0 ++ (gLf_18_1 ++ (gLf_18_2 ++ (gLf_18_3)))) = true := by decide +kernel
theorem gWy_18 {xs : Nat → Int32} (hk : xs 0 &&& 31 = nI 18) : gWay 5 xs := gWay_box hk gTt_18 (List.forall_mem_append.mpr ⟨List.all_eq_true.mp gRd_18_0, List.forall_mem_append.mpr ⟨List.all_eq_true.mp gRd_18_1, List.forall_mem_append.mpr ⟨List.all_eq_true.mp gRd_18_2, List.all_eq_true.mp gRd_18_3⟩⟩⟩)
def gTk_19 : List (Nat × Int) := [(1, 0), (0, 0), (0, 0)]
def gLf_19_0 : List gBox := [(((-2147483648), (-1)), ((-2147483648), 2147483647), ((-2147483648), 2147483647)), ((0, 2147483647), ((-2147483648), 2147483647), ((-2147483648), 2147483647))]
theorem gRd_19_0 : (gLf_19_0.all (gLok 19)) = true := by decide +kernel
theorem gTt_19 : gTrOk gTk_19 (gLf_19_0) = true := by decide +kernel
theorem gWy_19 {xs : Nat → Int32} (hk : xs 0 &&& 31 = nI 19) : gWay 5 xs := gWay_box hk gTt_19 (List.all_eq_true.mp gRd_19_0)
def gTk_20 : List (Nat × Int) := [(1, 0), (0, 0), (0, 0)]
def gLf_20_0 : List gBox := [(((-2147483648), (-1)), ((-2147483648), 2147483647), ((-2147483648), 2147483647)), ((0, 2147483647), ((-2147483648), 2147483647), ((-2147483648), 2147483647))]
theorem gRd_20_0 : (gLf_20_0.all (gLok 20)) = true := by decide +kernel
theorem gTt_20 : gTrOk gTk_20 (gLf_20_0) = true := by decide +kernel
theorem gWy_20 {xs : Nat → Int32} (hk : xs 0 &&& 31 = nI 20) : gWay 5 xs := gWay_box hk gTt_20 (List.all_eq_true.mp gRd_20_0)
def gTk_21 : List (Nat × Int) := [(1, 0), (0, 0), (0, 0)]
def gLf_21_0 : List gBox := [(((-2147483648), (-1)), ((-2147483648), 2147483647), ((-2147483648), 2147483647)), ((0, 2147483647), ((-2147483648), 2147483647), ((-2147483648), 2147483647))]
theorem gRd_21_0 : (gLf_21_0.all (gLok 21)) = true := by decide +kernel
theorem gTt_21 : gTrOk gTk_21 (gLf_21_0) = true := by decide +kernel
theorem gWy_21 {xs : Nat → Int32} (hk : xs 0 &&& 31 = nI 21) : gWay 5 xs := gWay_box hk gTt_21 (List.all_eq_true.mp gRd_21_0)
def gTk_22 : List (Nat × Int) := [(1, 0), (0, 0), (1, 4), (1, 1), (2, 0), (3, 0), (2, (-1)), (0, 0), (3, (-1)), (0, 0), (0, 0), (3, 1), (2, (-1)), (0, 0), (0, 0), (2, (-1)), (0, 0), (3, 4), (0, 0), (0, 0), (2, 1), (3, (-1)), (0, 0), (3, 4), (0, 0), (0, 0), (3, 0), (2, 4), (3, (-1)), (0, 0), (2, 2), (0, 0), (2, 3), (0, 0), (0, 0), (0, 0), (3, 1), (2, 4), (0, 0), (0, 0), (2, 4), (3, 4), (2, 2), (3, 2), (0, 0), (3, 3), (0, 0), (0, 0), (2, 3), (3, 2), (0, 0), (3, 3), (0, 0), (0, 0), (3, 3), (3, 2), (0, 0), (0, 0), (0, 0), (0, 0), (0, 0), (1, 2), (2, 1), (3, 1), (2, (-1)), (0, 0), (3, (-1)), (0, 0), (3, 0), (2, 0), (0, 0), (0, 0), (2, 0), (0, 0), (0, 0), (3, 2), (2, (-1)), (0, 0), (0, 0), (2, (-1)), (0, 0), (3, 4), (2, 0), (0, 0), (3, 3), (0, 0), (0, 0), (0, 0), (2, 2), (3, (-1)), (0, 0), (3, 4), (0, 0), (0, 0), (3, 1), (2, 4), (3, (-1)), (0, 0), (3, 0), (2, 3), (0, 0), (0, 0), (2, 3), (0, 0), (0, 0), (0, 0), (3, 2), (2, 4), (0, 0), (0, 0), (2, 4), (3, 4), (2, 3), (3, 3), (0, 0), (0, 0), (3, 3), (0, 0), (0, 0), (0, 0), (0, 0), (1, 3), (2, 2), (3, 2), (2, (-1)), (0, 0), (3, (-1)), (0, 0), (3, 0), (2, 0), (0, 0), (2, 1), (0, 0), (0, 0), (2, 0), (0, 0), (2, 1), (3, 1), (0, 0), (0, 0), (3, 1), (0, 0), (0, 0), (3, 3), (2, (-1)), (0, 0), (0, 0), (2, (-1)), (0, 0), (3, 4), (2, 0), (0, 0), (2, 1), (0, 0), (0, 0), (0, 0), (2, 3), (3, (-1)), (0, 0), (3, 4), (0, 0), (0, 0), (3, 2), (2, 4), (3, (-1)), (0, 0), (3, 0), (0, 0), (3, 1), (0, 0), (0, 0), (0, 0), (3, 3), (2, 4), (0, 0), (0, 0), (2, 4), (3, 4), (0, 0), (0, 0), (0, 0), (2, 3), (3, 3), (2, (-1)), (0, 0), (3, (-1)), (0, 0), (3, 0), (2, 0), (0, 0), (2, 1), (0, 0), (2, 2), (0, 0), (0, 0), (2, 0), (0, 0), (2, 1), (3, 1), (0, 0), (3, 2), (0, 0), (0, 0), (2, 2), (3, 1), (0, 0), (3, 2), (0, 0), (0, 0), (3, 2), (3, 1), (0, 0), (0, 0), (0, 0), (3, 4), (2, (-1)), (0, 0), (0, 0), (2, (-1)), (0, 0), (0, 0), (2, 4), (3, (-1)), (0, 0), (3, 4), (0, 0), (0, 0), (3, 3), (0, 0), (3, 4), (0, 0), (0, 0), (0, 0)]
def gLf_22_0 : List gBox := [(((-2147483648), (-1)), ((-2147483648), 2147483647), ((-2147483648), 2147483647)), ((0, 0), ((-2147483648), (-2)), ((-2147483648), (-1))), ((0, 0), ((-1), (-1)), ((-2147483648), (-2))), ((0, 0), ((-1), (-1)), ((-1), (-1))), ((0, 0), ((-2147483648), (-2)), (0, 0)), ((0, 0), ((-1), (-1)), (0, 0))]
theorem gRd_22_0 : (gLf_22_0.all (gLok 22)) = true := by decide +kernel
def gLf_22_1 : List gBox := [((0, 0), ((-2147483648), (-2)), (1, 2147483647)), ((0, 0), ((-1), (-1)), (1, 3)), ((0, 0), ((-1), (-1)), (4, 2147483647)), ((0, 0), (0, 0), ((-2147483648), (-2))), ((0, 0), (0, 0), ((-1), 3)), ((0, 0), (0, 0), (4, 2147483647))]
theorem gRd_22_1 : (gLf_22_1.all (gLok 22)) = true := by decide +kernel
def gLf_22_2 : List gBox := [((0, 0), (1, 3), ((-2147483648), (-2))), ((0, 0), (1, 1), ((-1), (-1))), ((0, 0), (2, 2), ((-1), (-1))), ((0, 0), (3, 3), ((-1), (-1))), ((0, 0), (4, 2147483647), ((-2147483648), (-1)))]
theorem gRd_22_2 : (gLf_22_2.all (gLok 22)) = true := by decide +kernel
def gLf_22_3 : List gBox := [((0, 0), (1, 3), (0, 0)), ((0, 0), (4, 2147483647), (0, 0)), ((0, 0), (1, 1), (1, 1)), ((0, 0), (1, 1), (2, 2)), ((0, 0), (1, 1), (3, 3))]
theorem gRd_22_3 : (gLf_22_3.all (gLok 22)) = true := by decide +kernel
def gLf_22_4 : List gBox := [((0, 0), (2, 2), (1, 1)), ((0, 0), (2, 2), (2, 2)), ((0, 0), (2, 2), (3, 3)), ((0, 0), (3, 3), (1, 1))]
theorem gRd_22_4 : (gLf_22_4.all (gLok 22)) = true := by decide +kernel
def gLf_22_5 : List gBox := [((0, 0), (3, 3), (2, 2)), ((0, 0), (3, 3), (3, 3)), ((0, 0), (1, 3), (4, 2147483647)), ((0, 0), (4, 2147483647), (1, 2147483647)), ((1, 1), ((-2147483648), (-2)), ((-2147483648), 0)), ((1, 1), ((-1), 0), ((-2147483648), (-2)))]
theorem gRd_22_5 : (gLf_22_5.all (gLok 22)) = true := by decide +kernel
