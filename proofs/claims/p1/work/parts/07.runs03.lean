/-! The runs of the calls (2,). -/
def ry_bc2 : rz_B := [((-2147483648), 2147483647), ((-2147483648), 2147483647), ((-2147483648), 2147483647), ((-2147483648), 2147483647), ((-2147483648), 2147483647), ((-2147483648), 2147483647), ((-2147483648), 2147483647), ((-2147483648), 2147483647), (8, 8), (2, 2)]
def ry_gc2_0 : List rz_B := [[((-2147483648), 2147483647), ((-2147483648), 2147483647), ((-2147483648), (-1)), ((-2147483648), 2147483647), ((-2147483648), 2147483647), ((-2147483648), 2147483647), ((-2147483648), 2147483647), ((-2147483648), 2147483647), (8, 8), (2, 2)], [((-2147483648), 2147483647), ((-2147483648), 2147483647), (0, 0), ((-2147483648), 2147483647), ((-2147483648), 2147483647), ((-2147483648), 2147483647), ((-2147483648), 2147483647), ((-2147483648), 2147483647), (8, 8), (2, 2)]]
set_option maxRecDepth 100000 in
set_option maxHeartbeats 4000000 in
theorem ry_hc2_0 : ry_gc2_0.all (rz_end rz_f1) = true := by decide +kernel
def ry_gc2_1 : List rz_B := [[((-2147483648), 2147483647), ((-2147483648), 2147483647), (1, 1), ((-2147483648), 2147483647), ((-2147483648), 2147483647), ((-2147483648), 2147483647), ((-2147483648), 2147483647), ((-2147483648), 2147483647), (8, 8), (2, 2)]]
set_option maxRecDepth 100000 in
set_option maxHeartbeats 4000000 in
theorem ry_hc2_1 : ry_gc2_1.all (rz_end rz_f1) = true := by decide +kernel
def ry_gc2_2 : List rz_B := [[((-2147483648), 2147483647), ((-2147483648), 2147483647), (2, 2), ((-2147483648), 2147483647), ((-2147483648), 2147483647), ((-2147483648), 2147483647), ((-2147483648), 2147483647), ((-2147483648), 2147483647), (8, 8), (2, 2)]]
set_option maxRecDepth 100000 in
set_option maxHeartbeats 4000000 in
theorem ry_hc2_2 : ry_gc2_2.all (rz_end rz_f1) = true := by decide +kernel
def ry_gc2_3 : List rz_B := [[((-2147483648), 2147483647), ((-2147483648), 2147483647), (3, 3), ((-2147483648), 2147483647), ((-2147483648), 2147483647), ((-2147483648), 2147483647), ((-2147483648), 2147483647), ((-2147483648), 2147483647), (8, 8), (2, 2)]]
set_option maxRecDepth 100000 in
set_option maxHeartbeats 4000000 in
theorem ry_hc2_3 : ry_gc2_3.all (rz_end rz_f1) = true := by decide +kernel
def ry_gc2_4 : List rz_B := [[((-2147483648), 2147483647), ((-2147483648), 2147483647), (4, 4), ((-2147483648), 2147483647), ((-2147483648), 2147483647), ((-2147483648), 2147483647), ((-2147483648), 2147483647), ((-2147483648), 2147483647), (8, 8), (2, 2)]]
set_option maxRecDepth 100000 in
set_option maxHeartbeats 4000000 in
theorem ry_hc2_4 : ry_gc2_4.all (rz_end rz_f1) = true := by decide +kernel
def ry_gc2_5 : List rz_B := [[((-2147483648), 2147483647), ((-2147483648), 2147483647), (5, 5), ((-2147483648), 2147483647), ((-2147483648), 2147483647), ((-2147483648), 2147483647), ((-2147483648), 2147483647), ((-2147483648), 2147483647), (8, 8), (2, 2)]]
set_option maxRecDepth 100000 in
set_option maxHeartbeats 4000000 in
theorem ry_hc2_5 : ry_gc2_5.all (rz_end rz_f1) = true := by decide +kernel
def ry_gc2_6 : List rz_B := [[((-2147483648), 2147483647), ((-2147483648), 2147483647), (6, 6), ((-2147483648), 2147483647), ((-2147483648), 2147483647), ((-2147483648), 2147483647), ((-2147483648), 2147483647), ((-2147483648), 2147483647), (8, 8), (2, 2)]]
set_option maxRecDepth 100000 in
set_option maxHeartbeats 4000000 in
theorem ry_hc2_6 : ry_gc2_6.all (rz_end rz_f1) = true := by decide +kernel
def ry_gc2_7 : List rz_B := [[((-2147483648), 2147483647), ((-2147483648), 2147483647), (7, 7), ((-2147483648), 2147483647), ((-2147483648), 2147483647), ((-2147483648), 2147483647), ((-2147483648), 2147483647), ((-2147483648), 2147483647), (8, 8), (2, 2)]]
set_option maxRecDepth 100000 in
set_option maxHeartbeats 4000000 in
theorem ry_hc2_7 : ry_gc2_7.all (rz_end rz_f1) = true := by decide +kernel
def ry_gc2_8 : List rz_B := [[((-2147483648), 2147483647), ((-2147483648), 2147483647), (8, 8), ((-2147483648), 2147483647), ((-2147483648), 2147483647), ((-2147483648), 2147483647), ((-2147483648), 2147483647), ((-2147483648), 2147483647), (8, 8), (2, 2)]]
set_option maxRecDepth 100000 in
set_option maxHeartbeats 4000000 in
theorem ry_hc2_8 : ry_gc2_8.all (rz_end rz_f1) = true := by decide +kernel
def ry_gc2_9 : List rz_B := [[((-2147483648), 2147483647), ((-2147483648), 2147483647), (9, 9), ((-2147483648), 2147483647), ((-2147483648), 2147483647), ((-2147483648), 2147483647), ((-2147483648), 2147483647), ((-2147483648), 2147483647), (8, 8), (2, 2)]]
set_option maxRecDepth 100000 in
set_option maxHeartbeats 4000000 in
theorem ry_hc2_9 : ry_gc2_9.all (rz_end rz_f1) = true := by decide +kernel
def ry_gc2_10 : List rz_B := [[((-2147483648), 2147483647), ((-2147483648), 2147483647), (10, 10), ((-2147483648), 2147483647), ((-2147483648), 2147483647), ((-2147483648), 2147483647), ((-2147483648), 2147483647), ((-2147483648), 2147483647), (8, 8), (2, 2)]]
set_option maxRecDepth 100000 in
set_option maxHeartbeats 4000000 in
theorem ry_hc2_10 : ry_gc2_10.all (rz_end rz_f1) = true := by decide +kernel
def ry_gc2_11 : List rz_B := [[((-2147483648), 2147483647), ((-2147483648), 2147483647), (11, 11), ((-2147483648), 2147483647), ((-2147483648), 2147483647), ((-2147483648), 2147483647), ((-2147483648), 2147483647), ((-2147483648), 2147483647), (8, 8), (2, 2)]]
set_option maxRecDepth 100000 in
set_option maxHeartbeats 4000000 in
theorem ry_hc2_11 : ry_gc2_11.all (rz_end rz_f1) = true := by decide +kernel
def ry_gc2_12 : List rz_B := [[((-2147483648), 2147483647), ((-2147483648), 2147483647), (12, 12), ((-2147483648), 2147483647), ((-2147483648), 2147483647), ((-2147483648), 2147483647), ((-2147483648), 2147483647), ((-2147483648), 2147483647), (8, 8), (2, 2)]]
set_option maxRecDepth 100000 in
set_option maxHeartbeats 4000000 in
theorem ry_hc2_12 : ry_gc2_12.all (rz_end rz_f1) = true := by decide +kernel
def ry_gc2_13 : List rz_B := [[((-2147483648), 2147483647), ((-2147483648), 2147483647), (13, 13), ((-2147483648), 2147483647), ((-2147483648), 2147483647), ((-2147483648), 2147483647), ((-2147483648), 2147483647), ((-2147483648), 2147483647), (8, 8), (2, 2)]]
set_option maxRecDepth 100000 in
set_option maxHeartbeats 4000000 in
theorem ry_hc2_13 : ry_gc2_13.all (rz_end rz_f1) = true := by decide +kernel
def ry_gc2_14 : List rz_B := [[((-2147483648), 2147483647), ((-2147483648), 2147483647), (14, 14), ((-2147483648), 2147483647), ((-2147483648), 2147483647), ((-2147483648), 2147483647), ((-2147483648), 2147483647), ((-2147483648), 2147483647), (8, 8), (2, 2)]]
set_option maxRecDepth 100000 in
set_option maxHeartbeats 4000000 in
theorem ry_hc2_14 : ry_gc2_14.all (rz_end rz_f1) = true := by decide +kernel
def ry_gc2_15 : List rz_B := [[((-2147483648), 2147483647), ((-2147483648), 2147483647), (15, 15), ((-2147483648), 2147483647), ((-2147483648), 2147483647), ((-2147483648), 2147483647), ((-2147483648), 2147483647), ((-2147483648), 2147483647), (8, 8), (2, 2)], [((-2147483648), 2147483647), ((-2147483648), 2147483647), (16, 16), ((-2147483648), 2147483647), ((-2147483648), 2147483647), ((-2147483648), 2147483647), ((-2147483648), 2147483647), ((-2147483648), 2147483647), (8, 8), (2, 2)], [((-2147483648), 2147483647), ((-2147483648), 2147483647), (17, 2147483647), ((-2147483648), 2147483647), ((-2147483648), 2147483647), ((-2147483648), 2147483647), ((-2147483648), 2147483647), ((-2147483648), 2147483647), (8, 8), (2, 2)]]
set_option maxRecDepth 100000 in
set_option maxHeartbeats 4000000 in
theorem ry_hc2_15 : ry_gc2_15.all (rz_end rz_f1) = true := by decide +kernel
def ry_lc2 : List rz_B := ry_gc2_0 ++ (ry_gc2_1 ++ (ry_gc2_2 ++ (ry_gc2_3 ++ (ry_gc2_4 ++ (ry_gc2_5 ++ (ry_gc2_6 ++ (ry_gc2_7 ++ (ry_gc2_8 ++ (ry_gc2_9 ++ (ry_gc2_10 ++ (ry_gc2_11 ++ (ry_gc2_12 ++ (ry_gc2_13 ++ (ry_gc2_14 ++ (ry_gc2_15)))))))))))))))
theorem ry_pc2 : ∀ B ∈ ry_lc2, rz_end rz_f1 B = true := List.forall_mem_append.mpr ⟨List.all_eq_true.mp ry_hc2_0, List.forall_mem_append.mpr ⟨List.all_eq_true.mp ry_hc2_1, List.forall_mem_append.mpr ⟨List.all_eq_true.mp ry_hc2_2, List.forall_mem_append.mpr ⟨List.all_eq_true.mp ry_hc2_3, List.forall_mem_append.mpr ⟨List.all_eq_true.mp ry_hc2_4, List.forall_mem_append.mpr ⟨List.all_eq_true.mp ry_hc2_5, List.forall_mem_append.mpr ⟨List.all_eq_true.mp ry_hc2_6, List.forall_mem_append.mpr ⟨List.all_eq_true.mp ry_hc2_7, List.forall_mem_append.mpr ⟨List.all_eq_true.mp ry_hc2_8, List.forall_mem_append.mpr ⟨List.all_eq_true.mp ry_hc2_9, List.forall_mem_append.mpr ⟨List.all_eq_true.mp ry_hc2_10, List.forall_mem_append.mpr ⟨List.all_eq_true.mp ry_hc2_11, List.forall_mem_append.mpr ⟨List.all_eq_true.mp ry_hc2_12, List.forall_mem_append.mpr ⟨List.all_eq_true.mp ry_hc2_13, List.forall_mem_append.mpr ⟨List.all_eq_true.mp ry_hc2_14, List.all_eq_true.mp ry_hc2_15⟩⟩⟩⟩⟩⟩⟩⟩⟩⟩⟩⟩⟩⟩⟩
set_option maxRecDepth 100000 in
set_option maxHeartbeats 4000000 in
theorem ry_sc2 : rz_all (fun B => ry_lc2.any (rz_eqB B)) [(2, 0), (99, 0), (2, 1), (99, 0), (2, 16), (2, 8), (2, 4), (2, 2), (99, 0), (2, 3), (99, 0), (99, 0), (2, 6), (2, 5), (99, 0), (99, 0), (2, 7), (99, 0), (99, 0), (2, 12), (2, 10), (2, 9), (99, 0), (99, 0), (2, 11), (99, 0), (99, 0), (2, 14), (2, 13), (99, 0), (99, 0), (2, 15), (99, 0), (99, 0), (2, 17), (99, 0), (99, 0)] ry_bc2 = true := by decide +kernel
