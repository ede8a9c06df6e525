/-! ===== the roads' runs, 2: written by wip/p1/jroads.py ===== -/
def gLf_22_6 : List gBox := [((1, 1), ((-1), (-1)), ((-1), (-1))), ((1, 1), (0, 0), ((-1), (-1))), ((1, 1), ((-1), (-1)), (0, 0)), ((1, 1), (0, 0), (0, 0)), ((1, 1), ((-2147483648), (-2)), (1, 1))]
theorem gRd_22_6 : (gLf_22_6.all (gLok 22)) = true := by decide +kernel
def gLf_22_7 : List gBox := [((1, 1), ((-1), 0), (1, 1)), ((1, 1), ((-2147483648), (-2)), (2, 2147483647)), ((1, 1), ((-1), (-1)), (2, 3)), ((1, 1), (0, 0), (2, 2)), ((1, 1), (0, 0), (3, 3))]
theorem gRd_22_7 : (gLf_22_7.all (gLok 22)) = true := by decide +kernel
def gLf_22_8 : List gBox := [((1, 1), ((-1), 0), (4, 2147483647)), ((1, 1), (1, 1), ((-2147483648), (-2))), ((1, 1), (1, 1), ((-1), 3)), ((1, 1), (1, 1), (4, 2147483647)), ((1, 1), (2, 3), ((-2147483648), (-2))), ((1, 1), (2, 2), ((-1), (-1)))]
theorem gRd_22_8 : (gLf_22_8.all (gLok 22)) = true := by decide +kernel
def gLf_22_9 : List gBox := [((1, 1), (3, 3), ((-1), (-1))), ((1, 1), (2, 2), (0, 0)), ((1, 1), (3, 3), (0, 0)), ((1, 1), (4, 2147483647), ((-2147483648), 0)), ((1, 1), (2, 3), (1, 1))]
theorem gRd_22_9 : (gLf_22_9.all (gLok 22)) = true := by decide +kernel
def gLf_22_10 : List gBox := [((1, 1), (4, 2147483647), (1, 1)), ((1, 1), (2, 2), (2, 2)), ((1, 1), (2, 2), (3, 3)), ((1, 1), (3, 3), (2, 2)), ((1, 1), (3, 3), (3, 3))]
theorem gRd_22_10 : (gLf_22_10.all (gLok 22)) = true := by decide +kernel
def gLf_22_11 : List gBox := [((1, 1), (2, 3), (4, 2147483647)), ((1, 1), (4, 2147483647), (2, 2147483647)), ((2, 2), ((-2147483648), (-2)), ((-2147483648), 1)), ((2, 2), ((-1), 1), ((-2147483648), (-2))), ((2, 2), ((-1), (-1)), ((-1), (-1)))]
theorem gRd_22_11 : (gLf_22_11.all (gLok 22)) = true := by decide +kernel
def gLf_22_12 : List gBox := [((2, 2), (0, 0), ((-1), (-1))), ((2, 2), (1, 1), ((-1), (-1))), ((2, 2), ((-1), (-1)), (0, 1)), ((2, 2), (0, 0), (0, 0)), ((2, 2), (0, 0), (1, 1))]
theorem gRd_22_12 : (gLf_22_12.all (gLok 22)) = true := by decide +kernel
def gLf_22_13 : List gBox := [((2, 2), (1, 1), (0, 0)), ((2, 2), (1, 1), (1, 1)), ((2, 2), ((-2147483648), (-2)), (2, 2)), ((2, 2), ((-1), 1), (2, 2)), ((2, 2), ((-2147483648), (-2)), (3, 2147483647)), ((2, 2), ((-1), (-1)), (3, 3))]
theorem gRd_22_13 : (gLf_22_13.all (gLok 22)) = true := by decide +kernel
def gLf_22_14 : List gBox := [((2, 2), (0, 0), (3, 3)), ((2, 2), (1, 1), (3, 3)), ((2, 2), ((-1), 1), (4, 2147483647)), ((2, 2), (2, 2), ((-2147483648), (-2))), ((2, 2), (2, 2), ((-1), 3))]
theorem gRd_22_14 : (gLf_22_14.all (gLok 22)) = true := by decide +kernel
def gLf_22_15 : List gBox := [((2, 2), (2, 2), (4, 2147483647)), ((2, 2), (3, 3), ((-2147483648), (-2))), ((2, 2), (3, 3), ((-1), (-1))), ((2, 2), (3, 3), (0, 0)), ((2, 2), (3, 3), (1, 1))]
theorem gRd_22_15 : (gLf_22_15.all (gLok 22)) = true := by decide +kernel
def gLf_22_16 : List gBox := [((2, 2), (4, 2147483647), ((-2147483648), 1)), ((2, 2), (3, 3), (2, 2)), ((2, 2), (4, 2147483647), (2, 2)), ((2, 2), (3, 3), (3, 3)), ((2, 2), (3, 3), (4, 2147483647)), ((2, 2), (4, 2147483647), (3, 2147483647))]
theorem gRd_22_16 : (gLf_22_16.all (gLok 22)) = true := by decide +kernel
def gLf_22_17 : List gBox := [((3, 3), ((-2147483648), (-2)), ((-2147483648), 2)), ((3, 3), ((-1), 2), ((-2147483648), (-2))), ((3, 3), ((-1), (-1)), ((-1), (-1))), ((3, 3), (0, 0), ((-1), (-1))), ((3, 3), (1, 1), ((-1), (-1)))]
theorem gRd_22_17 : (gLf_22_17.all (gLok 22)) = true := by decide +kernel
def gLf_22_18 : List gBox := [((3, 3), (2, 2), ((-1), (-1))), ((3, 3), ((-1), (-1)), (0, 2)), ((3, 3), (0, 0), (0, 0)), ((3, 3), (0, 0), (1, 1)), ((3, 3), (0, 0), (2, 2))]
theorem gRd_22_18 : (gLf_22_18.all (gLok 22)) = true := by decide +kernel
def gLf_22_19 : List gBox := [((3, 3), (1, 1), (0, 0)), ((3, 3), (1, 1), (1, 1)), ((3, 3), (1, 1), (2, 2)), ((3, 3), (2, 2), (0, 0))]
theorem gRd_22_19 : (gLf_22_19.all (gLok 22)) = true := by decide +kernel
def gLf_22_20 : List gBox := [((3, 3), (2, 2), (1, 1)), ((3, 3), (2, 2), (2, 2)), ((3, 3), ((-2147483648), (-2)), (3, 3)), ((3, 3), ((-1), 2), (3, 3)), ((3, 3), ((-2147483648), (-2)), (4, 2147483647)), ((3, 3), ((-1), 2), (4, 2147483647))]
theorem gRd_22_20 : (gLf_22_20.all (gLok 22)) = true := by decide +kernel
def gLf_22_21 : List gBox := [((3, 3), (3, 3), ((-2147483648), (-2))), ((3, 3), (3, 3), ((-1), 3)), ((3, 3), (3, 3), (4, 2147483647)), ((3, 3), (4, 2147483647), ((-2147483648), 2)), ((3, 3), (4, 2147483647), (3, 3)), ((3, 3), (4, 2147483647), (4, 2147483647))]
theorem gRd_22_21 : (gLf_22_21.all (gLok 22)) = true := by decide +kernel
def gLf_22_22 : List gBox := [((4, 2147483647), ((-2147483648), 2147483647), ((-2147483648), 2147483647))]
theorem gRd_22_22 : (gLf_22_22.all (gLok 22)) = true := by decide +kernel
theorem gTt_22 : gTrOk gTk_22 (gLf_22_0 ++ (gLf_22_1 ++ (gLf_22_2 ++ (gLf_22_3 ++ (gLf_22_4 ++ (gLf_22_5 ++ (gLf_22_6 ++ (gLf_22_7 ++ (gLf_22_8 ++ (gLf_22_9 ++ (gLf_22_10 ++ (gLf_22_11 ++ (gLf_22_12 ++ (gLf_22_13 ++ (gLf_22_14 ++ (gLf_22_15 ++ (gLf_22_16 ++ (gLf_22_17 ++ (gLf_22_18 ++ (gLf_22_19 ++ (gLf_22_20 ++ (gLf_22_21 ++ (gLf_22_22))))))))))))))))))))))) = true := by decide +kernel
theorem gWy_22 {xs : Nat → Int32} (hk : xs 0 &&& 31 = nI 22) : gWay 5 xs := gWay_box hk gTt_22 (List.forall_mem_append.mpr ⟨List.all_eq_true.mp gRd_22_0, List.forall_mem_append.mpr ⟨List.all_eq_true.mp gRd_22_1, List.forall_mem_append.mpr ⟨List.all_eq_true.mp gRd_22_2, List.forall_mem_append.mpr ⟨List.all_eq_true.mp gRd_22_3, List.forall_mem_append.mpr ⟨List.all_eq_true.mp gRd_22_4, List.forall_mem_append.mpr ⟨List.all_eq_true.mp gRd_22_5, List.forall_mem_append.mpr ⟨List.all_eq_true.mp gRd_22_6, List.forall_mem_append.mpr ⟨List.all_eq_true.mp gRd_22_7, List.forall_mem_append.mpr ⟨List.all_eq_true.mp gRd_22_8, List.forall_mem_append.mpr ⟨List.all_eq_true.mp gRd_22_9, List.forall_mem_append.mpr ⟨List.all_eq_true.mp gRd_22_10, List.forall_mem_append.mpr ⟨List.all_eq_true.mp gRd_22_11, List.forall_mem_append.mpr ⟨List.all_eq_true.mp gRd_22_12, List.forall_mem_append.mpr ⟨List.all_eq_true.mp gRd_22_13, List.forall_mem_append.mpr ⟨List.all_eq_true.mp gRd_22_14, List.forall_mem_append.mpr ⟨List.all_eq_true.mp gRd_22_15, List.forall_mem_append.mpr ⟨List.all_eq_true.mp gRd_22_16, List.forall_mem_append.mpr ⟨List.all_eq_true.mp gRd_22_17, List.forall_mem_append.mpr ⟨List.all_eq_true.mp gRd_22_18, List.forall_mem_append.mpr ⟨List.all_eq_true.mp gRd_22_19, List.forall_mem_append.mpr ⟨List.all_eq_true.mp gRd_22_20, List.forall_mem_append.mpr ⟨List.all_eq_true.mp gRd_22_21, List.all_eq_true.mp gRd_22_22⟩⟩⟩⟩⟩⟩⟩⟩⟩⟩⟩⟩⟩⟩⟩⟩⟩⟩⟩⟩⟩⟩)
def gTk_23 : List (Nat × Int) := [(0, 0)]
