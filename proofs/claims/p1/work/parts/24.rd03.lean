/-! ===== the roads' runs, 3: written by wip/p1/jroads.py ===== -/
def gLf_23_0 : List gBox := [(((-2147483648), 2147483647), ((-2147483648), 2147483647), ((-2147483648), 2147483647))]
theorem gRd_23_0 : (gLf_23_0.all (gLok 23)) = true := by decide +kernel
theorem gTt_23 : gTrOk gTk_23 (gLf_23_0) = true := by decide +kernel
theorem gWy_23 {xs : Nat → Int32} (hk : xs 0 &&& 31 = nI 23) : gWay 5 xs := gWay_box hk gTt_23 (List.all_eq_true.mp gRd_23_0)
def gTk_24 : List (Nat × Int) := [(1, 0), (0, 0), (1, 5), (0, 0), (0, 0)]
def gLf_24_0 : List gBox := [(((-2147483648), (-1)), ((-2147483648), 2147483647), ((-2147483648), 2147483647)), ((0, 4), ((-2147483648), 2147483647), ((-2147483648), 2147483647)), ((5, 2147483647), ((-2147483648), 2147483647), ((-2147483648), 2147483647))]
theorem gRd_24_0 : (gLf_24_0.all (gLok 24)) = true := by decide +kernel
theorem gTt_24 : gTrOk gTk_24 (gLf_24_0) = true := by decide +kernel
theorem gWy_24 {xs : Nat → Int32} (hk : xs 0 &&& 31 = nI 24) : gWay 5 xs := gWay_box hk gTt_24 (List.all_eq_true.mp gRd_24_0)
def gTk_25 : List (Nat × Int) := [(1, 0), (0, 0), (0, 0)]
def gLf_25_0 : List gBox := [(((-2147483648), (-1)), ((-2147483648), 2147483647), ((-2147483648), 2147483647)), ((0, 2147483647), ((-2147483648), 2147483647), ((-2147483648), 2147483647))]
theorem gRd_25_0 : (gLf_25_0.all (gLok 25)) = true := by decide +kernel
theorem gTt_25 : gTrOk gTk_25 (gLf_25_0) = true := by decide +kernel
theorem gWy_25 {xs : Nat → Int32} (hk : xs 0 &&& 31 = nI 25) : gWay 5 xs := gWay_box hk gTt_25 (List.all_eq_true.mp gRd_25_0)
def gTk_26 : List (Nat × Int) := [(1, 0), (0, 0), (1, 4), (2, 0), (0, 0), (2, 2), (3, 1), (0, 0), (3, 31), (1, 1), (0, 0), (1, 2), (0, 0), (1, 3), (0, 0), (0, 0), (0, 0), (0, 0), (0, 0)]
def gLf_26_0 : List gBox := [(((-2147483648), (-1)), ((-2147483648), 2147483647), ((-2147483648), 2147483647)), ((0, 3), ((-2147483648), (-1)), ((-2147483648), 2147483647)), ((0, 3), (0, 1), ((-2147483648), 0)), ((0, 0), (0, 1), (1, 30)), ((1, 1), (0, 1), (1, 30)), ((2, 2), (0, 1), (1, 30))]
theorem gRd_26_0 : (gLf_26_0.all (gLok 26)) = true := by decide +kernel
def gLf_26_1 : List gBox := [((3, 3), (0, 1), (1, 30)), ((0, 3), (0, 1), (31, 2147483647)), ((0, 3), (2, 2147483647), ((-2147483648), 2147483647)), ((4, 2147483647), ((-2147483648), 2147483647), ((-2147483648), 2147483647))]
theorem gRd_26_1 : (gLf_26_1.all (gLok 26)) = true := by decide +kernel
theorem gTt_26 : gTrOk gTk_26 (gLf_26_0 ++ (gLf_26_1)) = true := by decide +kernel
theorem gWy_26 {xs : Nat → Int32} (hk : xs 0 &&& 31 = nI 26) : gWay 5 xs := gWay_box hk gTt_26 (List.forall_mem_append.mpr ⟨List.all_eq_true.mp gRd_26_0, List.all_eq_true.mp gRd_26_1⟩)
def gTk_27 : List (Nat × Int) := [(1, 0), (0, 0), (1, 3), (0, 0), (0, 0)]
def gLf_27_0 : List gBox := [(((-2147483648), (-1)), ((-2147483648), 2147483647), ((-2147483648), 2147483647)), ((0, 2), ((-2147483648), 2147483647), ((-2147483648), 2147483647)), ((3, 2147483647), ((-2147483648), 2147483647), ((-2147483648), 2147483647))]
theorem gRd_27_0 : (gLf_27_0.all (gLok 27)) = true := by decide +kernel
theorem gTt_27 : gTrOk gTk_27 (gLf_27_0) = true := by decide +kernel
theorem gWy_27 {xs : Nat → Int32} (hk : xs 0 &&& 31 = nI 27) : gWay 5 xs := gWay_box hk gTt_27 (List.all_eq_true.mp gRd_27_0)
def gTk_28 : List (Nat × Int) := [(1, 0), (0, 0), (0, 0)]
def gLf_28_0 : List gBox := [(((-2147483648), (-1)), ((-2147483648), 2147483647), ((-2147483648), 2147483647)), ((0, 2147483647), ((-2147483648), 2147483647), ((-2147483648), 2147483647))]
theorem gRd_28_0 : (gLf_28_0.all (gLok 28)) = true := by decide +kernel
theorem gTt_28 : gTrOk gTk_28 (gLf_28_0) = true := by decide +kernel
theorem gWy_28 {xs : Nat → Int32} (hk : xs 0 &&& 31 = nI 28) : gWay 5 xs := gWay_box hk gTt_28 (List.all_eq_true.mp gRd_28_0)
def gTk_29 : List (Nat × Int) := [(1, 0), (0, 0), (1, 9), (1, 8), (1, 1), (0, 0), (1, 2), (0, 0), (1, 3), (0, 0), (1, 4), (0, 0), (1, 5), (0, 0), (1, 6), (0, 0), (1, 7), (0, 0), (0, 0), (0, 0), (0, 0)]
def gLf_29_0 : List gBox := [(((-2147483648), (-1)), ((-2147483648), 2147483647), ((-2147483648), 2147483647)), ((0, 0), ((-2147483648), 2147483647), ((-2147483648), 2147483647)), ((1, 1), ((-2147483648), 2147483647), ((-2147483648), 2147483647)), ((2, 2), ((-2147483648), 2147483647), ((-2147483648), 2147483647)), ((3, 3), ((-2147483648), 2147483647), ((-2147483648), 2147483647))]
theorem gRd_29_0 : (gLf_29_0.all (gLok 29)) = true := by decide +kernel
def gLf_29_1 : List gBox := [((4, 4), ((-2147483648), 2147483647), ((-2147483648), 2147483647)), ((5, 5), ((-2147483648), 2147483647), ((-2147483648), 2147483647)), ((6, 6), ((-2147483648), 2147483647), ((-2147483648), 2147483647)), ((7, 7), ((-2147483648), 2147483647), ((-2147483648), 2147483647)), ((8, 8), ((-2147483648), 2147483647), ((-2147483648), 2147483647))]
theorem gRd_29_1 : (gLf_29_1.all (gLok 29)) = true := by decide +kernel
def gLf_29_2 : List gBox := [((9, 2147483647), ((-2147483648), 2147483647), ((-2147483648), 2147483647))]
theorem gRd_29_2 : (gLf_29_2.all (gLok 29)) = true := by decide +kernel
theorem gTt_29 : gTrOk gTk_29 (gLf_29_0 ++ (gLf_29_1 ++ (gLf_29_2))) = true := by decide +kernel
theorem gWy_29 {xs : Nat → Int32} (hk : xs 0 &&& 31 = nI 29) : gWay 5 xs := gWay_box hk gTt_29 (List.forall_mem_append.mpr ⟨List.all_eq_true.mp gRd_29_0, List.forall_mem_append.mpr ⟨List.all_eq_true.mp gRd_29_1, List.all_eq_true.mp gRd_29_2⟩⟩)
def gTk_30 : List (Nat × Int) := [(1, 0), (0, 0), (1, 3), (0, 0), (0, 0)]
def gLf_30_0 : List gBox := [(((-2147483648), (-1)), ((-2147483648), 2147483647), ((-2147483648), 2147483647)), ((0, 2), ((-2147483648), 2147483647), ((-2147483648), 2147483647)), ((3, 2147483647), ((-2147483648), 2147483647), ((-2147483648), 2147483647))]
theorem gRd_30_0 : (gLf_30_0.all (gLok 30)) = true := by decide +kernel
theorem gTt_30 : gTrOk gTk_30 (gLf_30_0) = true := by decide +kernel
theorem gWy_30 {xs : Nat → Int32} (hk : xs 0 &&& 31 = nI 30) : gWay 5 xs := gWay_box hk gTt_30 (List.all_eq_true.mp gRd_30_0)
def gTk_31 : List (Nat × Int) := [(0, 0)]
def gLf_31_0 : List gBox := [(((-2147483648), 2147483647), ((-2147483648), 2147483647), ((-2147483648), 2147483647))]
theorem gRd_31_0 : (gLf_31_0.all (gLok 31)) = true := by decide +kernel
theorem gTt_31 : gTrOk gTk_31 (gLf_31_0) = true := by decide +kernel
theorem gWy_31 {xs : Nat → Int32} (hk : xs 0 &&& 31 = nI 31) : gWay 5 xs := gWay_box hk gTt_31 (List.all_eq_true.mp gRd_31_0)
theorem gSs_0 : ((List.range 32).all (gLsh 0)) = true := by decide +kernel
theorem gSs_1 : ((List.range 32).all (gLsh 1)) = true := by decide +kernel
theorem gSs_2 : ((List.range 32).all (gLsh 2)) = true := by decide +kernel
theorem gSs_3 : ((List.range 32).all (gLsh 3)) = true := by decide +kernel
theorem gSs_4 : ((List.range 32).all (gLsh 4)) = true := by decide +kernel
