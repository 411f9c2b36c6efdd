/-! The rows of the plain instructions. -/
section
variable {G : rz_G} {B : rz_B} {i nL : Nat} {p : Program} {l : Launch} {e : Env} {R : Room} {s : State} {m : MethodId} {args : Array Value} {below : List Frame} {meth : Method} {c : Code}
variable {pc : Nat} {L : List (Nat × rz_V)} {S : List rz_V} {h : List rz_E} {k z : Nat} {Q : State → Prop}
theorem rz_o32 {n : Int} (h1 : -2147483648 ≤ n) (h2 : n ≤ 2147483647) : (Int32.ofInt n).toInt = n := by
  rw [Int32.toInt_ofInt]
  exact rz_bm (M := 4294967296) (by omega) (by omega)
theorem rz_o64 {n : Int} (h1 : -9223372036854775808 ≤ n) (h2 : n ≤ 9223372036854775807) : (Int64.ofInt n).toInt = n := by
  rw [Int64.toInt_ofInt]
  exact rz_bm (M := 18446744073709551616) (by omega) (by omega)
theorem rz_o_iconst (C : rz_C G B i p l s m args meth c) {n : Int} (hd : decode (rz_by i) pc = .ok (.iconst n, 1)) (hn : rz_r32 n = true) (kk : rz_Wj G nL p l e R s m args below meth c Q (pc + 1) L ((0, n) :: S) h k z) : rz_Wj G nL p l e R s m args below meth c Q pc L S h k z := by
  intro H locs ls st hl hs hp hf
  have hn := rz_r32s hn
  exact lv_iconst C.1 C.2.1 hd rfl (kk H locs ls _ hl ⟨⟨_, rfl, rz_o32 (by omega) (by omega)⟩, hs⟩ hp hf)
theorem rz_i8 {n : Int} (h1 : -128 ≤ n) (h2 : n ≤ 127) : (Int8.ofInt n).toInt32.toInt = n := by
  rw [Int8.toInt_toInt32, Int8.toInt_ofInt]
  exact rz_bm (M := 256) (by omega) (by omega)
theorem rz_i16 {n : Int} (h1 : -32768 ≤ n) (h2 : n ≤ 32767) : (Int16.ofInt n).toInt32.toInt = n := by
  rw [Int16.toInt_toInt32, Int16.toInt_ofInt]
  exact rz_bm (M := 65536) (by omega) (by omega)
theorem rz_o_bipush (C : rz_C G B i p l s m args meth c) {n : Int} (hd : decode (rz_by i) pc = .ok (.bipush n, 2)) (h1 : -128 ≤ n) (h2 : n ≤ 127) (kk : rz_Wj G nL p l e R s m args below meth c Q (pc + 2) L ((0, n) :: S) h k z) : rz_Wj G nL p l e R s m args below meth c Q pc L S h k z := by
  intro H locs ls st hl hs hp hf
  exact lv_bipush C.1 C.2.1 hd rfl (kk H locs ls _ hl ⟨⟨_, rfl, rz_i8 h1 h2⟩, hs⟩ hp hf)
theorem rz_o_sipush (C : rz_C G B i p l s m args meth c) {n : Int} (hd : decode (rz_by i) pc = .ok (.sipush n, 3)) (h1 : -32768 ≤ n) (h2 : n ≤ 32767) (kk : rz_Wj G nL p l e R s m args below meth c Q (pc + 3) L ((0, n) :: S) h k z) : rz_Wj G nL p l e R s m args below meth c Q pc L S h k z := by
  intro H locs ls st hl hs hp hf
  exact lv_sipush C.1 C.2.1 hd rfl (kk H locs ls _ hl ⟨⟨_, rfl, rz_i16 h1 h2⟩, hs⟩ hp hf)
theorem rz_o_lconst (C : rz_C G B i p l s m args meth c) {n : Fin 2} (hd : decode (rz_by i) pc = .ok (.lconst n, 1)) (kk : rz_Wj G nL p l e R s m args below meth c Q (pc + 1) L ((2, (n.val : Int)) :: S) h k z) : rz_Wj G nL p l e R s m args below meth c Q pc L S h k z := by
  intro H locs ls st hl hs hp hf
  exact lv_lconst C.1 C.2.1 hd rfl (kk H locs ls _ hl ⟨⟨_, rfl, lg_ofNat_toInt (by have := n.isLt; omega)⟩, hs⟩ hp hf)
theorem rz_o_null (C : rz_C G B i p l s m args meth c) (hd : decode (rz_by i) pc = .ok (.aconst_null, 1)) (kk : rz_Wj G nL p l e R s m args below meth c Q (pc + 1) L ((5, 0) :: S) h k z) : rz_Wj G nL p l e R s m args below meth c Q pc L S h k z := by
  intro H locs ls st hl hs hp hf
  exact lv_null C.1 C.2.1 hd (kk H locs ls _ hl ⟨rfl, hs⟩ hp hf)
theorem rz_o_ldc (C : rz_C G B i p l s m args meth c) {x : Nat} {b : Int} (hd : decode (rz_by i) pc = .ok (.ldc x, 2)) (hw : Cond.constant (rz_cn (rz_mo i)) x (Int32.ofInt b) ∈ rz_TS) (hb : rz_r32 b = true) (kk : rz_Wj G nL p l e R s m args below meth c Q (pc + 2) L ((0, b) :: S) h k z) : rz_Wj G nL p l e R s m args below meth c Q pc L S h k z := by
  intro H locs ls st hl hs hp hf
  have hb := rz_r32s hb
  exact lv_ldc C.1 C.2.1 C.2.2.2.2.1 (C.2.2.2.2.2.1 _ hw) hd (kk H locs ls _ hl ⟨⟨_, rfl, rz_o32 (by omega) (by omega)⟩, hs⟩ hp hf)
theorem rz_o_ldcw (C : rz_C G B i p l s m args meth c) {x : Nat} {b : Int} (hd : decode (rz_by i) pc = .ok (.ldc_w x, 3)) (hw : Cond.constant (rz_cn (rz_mo i)) x (Int32.ofInt b) ∈ rz_TS) (hb : rz_r32 b = true) (kk : rz_Wj G nL p l e R s m args below meth c Q (pc + 3) L ((0, b) :: S) h k z) : rz_Wj G nL p l e R s m args below meth c Q pc L S h k z := by
  intro H locs ls st hl hs hp hf
  have hb := rz_r32s hb
  exact lv_ldcw C.1 C.2.1 C.2.2.2.2.1 (C.2.2.2.2.2.1 _ hw) hd (kk H locs ls _ hl ⟨⟨_, rfl, rz_o32 (by omega) (by omega)⟩, hs⟩ hp hf)
theorem rz_o_ldc2 (C : rz_C G B i p l s m args meth c) {x : Nat} {b : Int} (hd : decode (rz_by i) pc = .ok (.ldc2_w x, 3)) (hw : Cond.constantLong (rz_cn (rz_mo i)) x (Int64.ofInt b) ∈ rz_TS) (hb : rz_r64 b = true) (kk : rz_Wj G nL p l e R s m args below meth c Q (pc + 3) L ((2, b) :: S) h k z) : rz_Wj G nL p l e R s m args below meth c Q pc L S h k z := by
  intro H locs ls st hl hs hp hf
  have hb := rz_r64s hb
  exact lv_ldc2 C.1 C.2.1 C.2.2.2.2.1 (C.2.2.2.2.2.1 _ hw) hd (kk H locs ls _ hl ⟨⟨_, rfl, rz_o64 (by omega) (by omega)⟩, hs⟩ hp hf)
theorem rz_o_iload_n (C : rz_C G B i p l s m args meth c) {j : Fin 4} {v : rz_V} (hd : decode (rz_by i) pc = .ok (.iload_n j, 1)) (hv : rz_lk L j.val = some v) (hi : rz_isI v = true) (kk : rz_Wj G nL p l e R s m args below meth c Q (pc + 1) L (v :: S) h k z) : rz_Wj G nL p l e R s m args below meth c Q pc L S h k z := by
  intro H locs ls st hl hs hp hf
  obtain ⟨w, h1, h2⟩ := rz_locat hl hv
  obtain ⟨x, rfl⟩ := rz_vI hi h2
  exact lv_iload_n C.1 C.2.1 hd rfl h1 (kk H locs ls _ hl ⟨h2, hs⟩ hp hf)
theorem rz_o_iload (C : rz_C G B i p l s m args meth c) {j : Nat} {v : rz_V} (hd : decode (rz_by i) pc = .ok (.iload j, 2)) (hv : rz_lk L j = some v) (hi : rz_isI v = true) (kk : rz_Wj G nL p l e R s m args below meth c Q (pc + 2) L (v :: S) h k z) : rz_Wj G nL p l e R s m args below meth c Q pc L S h k z := by
  intro H locs ls st hl hs hp hf
  obtain ⟨w, h1, h2⟩ := rz_locat hl hv
  obtain ⟨x, rfl⟩ := rz_vI hi h2
  exact lv_iload C.1 C.2.1 hd h1 (kk H locs ls _ hl ⟨h2, hs⟩ hp hf)
theorem rz_o_lload_n (C : rz_C G B i p l s m args meth c) {j : Fin 4} {v : rz_V} (hd : decode (rz_by i) pc = .ok (.lload_n j, 1)) (hv : rz_lk L j.val = some v) (hi : rz_isL v = true) (kk : rz_Wj G nL p l e R s m args below meth c Q (pc + 1) L (v :: S) h k z) : rz_Wj G nL p l e R s m args below meth c Q pc L S h k z := by
  intro H locs ls st hl hs hp hf
  obtain ⟨w, h1, h2⟩ := rz_locat hl hv
  obtain ⟨x, rfl⟩ := rz_vL hi h2
  exact lv_lload_n C.1 C.2.1 hd rfl h1 (kk H locs ls _ hl ⟨h2, hs⟩ hp hf)
theorem rz_o_lload (C : rz_C G B i p l s m args meth c) {j : Nat} {v : rz_V} (hd : decode (rz_by i) pc = .ok (.lload j, 2)) (hv : rz_lk L j = some v) (hi : rz_isL v = true) (kk : rz_Wj G nL p l e R s m args below meth c Q (pc + 2) L (v :: S) h k z) : rz_Wj G nL p l e R s m args below meth c Q pc L S h k z := by
  intro H locs ls st hl hs hp hf
  obtain ⟨w, h1, h2⟩ := rz_locat hl hv
  obtain ⟨x, rfl⟩ := rz_vL hi h2
  exact lv_lload C.1 C.2.1 hd h1 (kk H locs ls _ hl ⟨h2, hs⟩ hp hf)
theorem rz_o_aload_n (C : rz_C G B i p l s m args meth c) {j : Fin 4} {v : rz_V} (hd : decode (rz_by i) pc = .ok (.aload_n j, 1)) (hv : rz_lk L j.val = some v) (hi : rz_isA v = true) (kk : rz_Wj G nL p l e R s m args below meth c Q (pc + 1) L (v :: S) h k z) : rz_Wj G nL p l e R s m args below meth c Q pc L S h k z := by
  intro H locs ls st hl hs hp hf
  obtain ⟨w, h1, h2⟩ := rz_locat hl hv
  rcases rz_vA hi h2 with rfl | ⟨x, rfl⟩
  · exact lv_aload_nN C.1 C.2.1 hd rfl h1 (kk H locs ls _ hl ⟨h2, hs⟩ hp hf)
  · exact lv_aload_n C.1 C.2.1 hd rfl h1 (kk H locs ls _ hl ⟨h2, hs⟩ hp hf)
theorem rz_o_aload (C : rz_C G B i p l s m args meth c) {j : Nat} {v : rz_V} (hd : decode (rz_by i) pc = .ok (.aload j, 2)) (hv : rz_lk L j = some v) (hi : rz_isA v = true) (kk : rz_Wj G nL p l e R s m args below meth c Q (pc + 2) L (v :: S) h k z) : rz_Wj G nL p l e R s m args below meth c Q pc L S h k z := by
  intro H locs ls st hl hs hp hf
  obtain ⟨w, h1, h2⟩ := rz_locat hl hv
  rcases rz_vA hi h2 with rfl | ⟨x, rfl⟩
  · exact lv_aloadN C.1 C.2.1 hd h1 (kk H locs ls _ hl ⟨h2, hs⟩ hp hf)
  · exact lv_aload C.1 C.2.1 hd h1 (kk H locs ls _ hl ⟨h2, hs⟩ hp hf)
theorem rz_o_istore_n (C : rz_C G B i p l s m args meth c) {j : Fin 4} {v : rz_V} (hd : decode (rz_by i) pc = .ok (.istore_n j, 1)) (hi : rz_isI v = true) (hj : Nat.blt j.val nL = true) (kk : rz_Wj G nL p l e R s m args below meth c Q (pc + 1) (rz_st1 L j.val v) S h k z) : rz_Wj G nL p l e R s m args below meth c Q pc L (v :: S) h k z := by
  intro H locs ls st hl hs hp hf
  obtain ⟨w, st, rfl, h2, hs1⟩ := rz_skc hs
  obtain ⟨x, rfl⟩ := rz_vI hi h2
  obtain ⟨lv, hl1, hl2⟩ := hl
  exact lv_istore_n C.1 C.2.1 hd rfl hl1 (Nat.blt_eq.mp hj) rfl (fun ls' hl' => kk H locs ls' _ ⟨_, hl', rz_ls1 hl2 h2⟩ hs1 hp hf)
theorem rz_o_istore (C : rz_C G B i p l s m args meth c) {j : Nat} {v : rz_V} (hd : decode (rz_by i) pc = .ok (.istore j, 2)) (hi : rz_isI v = true) (hj : Nat.blt j nL = true) (kk : rz_Wj G nL p l e R s m args below meth c Q (pc + 2) (rz_st1 L j v) S h k z) : rz_Wj G nL p l e R s m args below meth c Q pc L (v :: S) h k z := by
  intro H locs ls st hl hs hp hf
  obtain ⟨w, st, rfl, h2, hs1⟩ := rz_skc hs
  obtain ⟨x, rfl⟩ := rz_vI hi h2
  obtain ⟨lv, hl1, hl2⟩ := hl
  exact lv_istore C.1 C.2.1 hd hl1 (Nat.blt_eq.mp hj) rfl (fun ls' hl' => kk H locs ls' _ ⟨_, hl', rz_ls1 hl2 h2⟩ hs1 hp hf)
theorem rz_o_astore_n (C : rz_C G B i p l s m args meth c) {j : Fin 4} {v : rz_V} (hd : decode (rz_by i) pc = .ok (.astore_n j, 1)) (hi : rz_isA v = true) (hj : Nat.blt j.val nL = true) (kk : rz_Wj G nL p l e R s m args below meth c Q (pc + 1) (rz_st1 L j.val v) S h k z) : rz_Wj G nL p l e R s m args below meth c Q pc L (v :: S) h k z := by
  intro H locs ls st hl hs hp hf
  obtain ⟨w, st, rfl, h2, hs1⟩ := rz_skc hs
  obtain ⟨lv, hl1, hl2⟩ := hl
  rcases rz_vA hi h2 with rfl | ⟨x, rfl⟩
  · exact lv_astore_nN C.1 C.2.1 hd rfl hl1 (Nat.blt_eq.mp hj) rfl (fun ls' hl' => kk H locs ls' _ ⟨_, hl', rz_ls1 hl2 h2⟩ hs1 hp hf)
  · exact lv_astore_n C.1 C.2.1 hd rfl hl1 (Nat.blt_eq.mp hj) rfl (fun ls' hl' => kk H locs ls' _ ⟨_, hl', rz_ls1 hl2 h2⟩ hs1 hp hf)
theorem rz_o_astore (C : rz_C G B i p l s m args meth c) {j : Nat} {v : rz_V} (hd : decode (rz_by i) pc = .ok (.astore j, 2)) (hi : rz_isA v = true) (hj : Nat.blt j nL = true) (kk : rz_Wj G nL p l e R s m args below meth c Q (pc + 2) (rz_st1 L j v) S h k z) : rz_Wj G nL p l e R s m args below meth c Q pc L (v :: S) h k z := by
  intro H locs ls st hl hs hp hf
  obtain ⟨w, st, rfl, h2, hs1⟩ := rz_skc hs
  obtain ⟨lv, hl1, hl2⟩ := hl
  rcases rz_vA hi h2 with rfl | ⟨x, rfl⟩
  · exact lv_astoreN C.1 C.2.1 hd hl1 (Nat.blt_eq.mp hj) rfl (fun ls' hl' => kk H locs ls' _ ⟨_, hl', rz_ls1 hl2 h2⟩ hs1 hp hf)
  · exact lv_astore C.1 C.2.1 hd hl1 (Nat.blt_eq.mp hj) rfl (fun ls' hl' => kk H locs ls' _ ⟨_, hl', rz_ls1 hl2 h2⟩ hs1 hp hf)
theorem rz_o_lstore (C : rz_C G B i p l s m args meth c) {j : Nat} {v : rz_V} (hd : decode (rz_by i) pc = .ok (.lstore j, 2)) (hi : rz_isL v = true) (hj : Nat.blt (j + 1) nL = true) (kk : rz_Wj G nL p l e R s m args below meth c Q (pc + 2) (rz_st2 L j v) S h k z) : rz_Wj G nL p l e R s m args below meth c Q pc L (v :: S) h k z := by
  intro H locs ls st hl hs hp hf
  obtain ⟨w, st, rfl, h2, hs1⟩ := rz_skc hs
  obtain ⟨x, rfl⟩ := rz_vL hi h2
  obtain ⟨lv, hl1, hl2⟩ := hl
  exact lv_lstore C.1 C.2.1 hd hl1 (Nat.blt_eq.mp hj) rfl (fun ls' hl' => kk H locs ls' _ ⟨_, hl', rz_ls2 hl2 h2⟩ hs1 hp hf)
theorem rz_o_iinc (C : rz_C G B i p l s m args meth c) {j : Nat} {n : Int} {v : rz_V} (hd : decode (rz_by i) pc = .ok (.iinc j n, 3)) (hv : rz_lk L j = some v) (hk : rz_k v = true) (hn : rz_r32 n = true) (hvn : rz_r32 (v.2 + n) = true) (hj : Nat.blt j nL = true) (kk : rz_Wj G nL p l e R s m args below meth c Q (pc + 3) (rz_st1 L j (0, v.2 + n)) S h k z) : rz_Wj G nL p l e R s m args below meth c Q pc L S h k z := by
  intro H locs ls st hl hs hp hf
  obtain ⟨lv, hl1, hl2⟩ := hl
  obtain ⟨q, w, h1, h2⟩ := rz_lsat hl2 hv
  obtain ⟨x, rfl, hx⟩ := rz_vk hk h2
  have hn := rz_r32s hn
  have hvn := rz_r32s hvn
  have e1 : (x + Int32.ofInt n).toInt = v.2 + n := by
    rw [Int32.toInt_add, hx, rz_o32 (by omega) (by omega)]
    exact rz_bm (M := 4294967296) (by omega) (by omega)
  exact lv_iinc C.1 C.2.1 hd hl1 h1 rfl (Nat.blt_eq.mp hj) rfl (fun ls' hl' => kk H locs ls' _ ⟨_, hl', rz_ls1 hl2 ⟨_, rfl, e1⟩⟩ hs hp hf)
theorem rz_o_dup (C : rz_C G B i p l s m args meth c) {v : rz_V} (hd : decode (rz_by i) pc = .ok (.dup, 1)) (hc : Nat.beq (rz_cat v) 1 = true) (kk : rz_Wj G nL p l e R s m args below meth c Q (pc + 1) L (v :: v :: S) h k z) : rz_Wj G nL p l e R s m args below meth c Q pc L (v :: S) h k z := by
  intro H locs ls st hl hs hp hf
  obtain ⟨w, st, rfl, h2, hs1⟩ := rz_skc hs
  exact lv_dup C.1 C.2.1 hd (by rw [rz_vcat h2]; exact Nat.eq_of_beq_eq_true hc) (kk H locs ls _ hl ⟨h2, h2, hs1⟩ hp hf)
theorem rz_o_dup_x1 (C : rz_C G B i p l s m args meth c) {v u : rz_V} (hd : decode (rz_by i) pc = .ok (.dup_x1, 1)) (hc : Nat.beq (rz_cat v) 1 = true) (hc2 : Nat.beq (rz_cat u) 1 = true) (kk : rz_Wj G nL p l e R s m args below meth c Q (pc + 1) L (v :: u :: v :: S) h k z) : rz_Wj G nL p l e R s m args below meth c Q pc L (v :: u :: S) h k z := by
  intro H locs ls st hl hs hp hf
  obtain ⟨w, st, rfl, h2, hs1⟩ := rz_skc hs
  obtain ⟨w2, st, rfl, h3, hs2⟩ := rz_skc hs1
  exact lv_dup_x1 C.1 C.2.1 hd (by rw [rz_vcat h2]; exact Nat.eq_of_beq_eq_true hc) (by rw [rz_vcat h3]; exact Nat.eq_of_beq_eq_true hc2) (kk H locs ls _ hl ⟨h2, h3, h2, hs2⟩ hp hf)
theorem rz_o_dup_x2 (C : rz_C G B i p l s m args meth c) {v u t : rz_V} (hd : decode (rz_by i) pc = .ok (.dup_x2, 1)) (hc : Nat.beq (rz_cat v) 1 = true) (hc2 : Nat.beq (rz_cat u) 1 = true) (hc3 : Nat.beq (rz_cat t) 1 = true) (kk : rz_Wj G nL p l e R s m args below meth c Q (pc + 1) L (v :: u :: t :: v :: S) h k z) : rz_Wj G nL p l e R s m args below meth c Q pc L (v :: u :: t :: S) h k z := by
  intro H locs ls st hl hs hp hf
  obtain ⟨w, st, rfl, h2, hs1⟩ := rz_skc hs
  obtain ⟨w2, st, rfl, h3, hs2⟩ := rz_skc hs1
  obtain ⟨w3, st, rfl, h4, hs3⟩ := rz_skc hs2
  exact lv_dup_x2 C.1 C.2.1 hd (by rw [rz_vcat h2]; exact Nat.eq_of_beq_eq_true hc) (by rw [rz_vcat h3]; exact Nat.eq_of_beq_eq_true hc2) (by rw [rz_vcat h4]; exact Nat.eq_of_beq_eq_true hc3) (kk H locs ls _ hl ⟨h2, h3, h4, h2, hs3⟩ hp hf)
theorem rz_o_dup2 (C : rz_C G B i p l s m args meth c) {v : rz_V} (hd : decode (rz_by i) pc = .ok (.dup2, 1)) (hc : Nat.beq (rz_cat v) 2 = true) (kk : rz_Wj G nL p l e R s m args below meth c Q (pc + 1) L (v :: v :: S) h k z) : rz_Wj G nL p l e R s m args below meth c Q pc L (v :: S) h k z := by
  intro H locs ls st hl hs hp hf
  obtain ⟨w, st, rfl, h2, hs1⟩ := rz_skc hs
  exact lv_dup2_2 C.1 C.2.1 hd (by rw [rz_vcat h2]; exact Nat.eq_of_beq_eq_true hc) (kk H locs ls _ hl ⟨h2, h2, hs1⟩ hp hf)
theorem rz_o_dup2_11 (C : rz_C G B i p l s m args meth c) {v u : rz_V} (hd : decode (rz_by i) pc = .ok (.dup2, 1)) (hc : Nat.beq (rz_cat v) 1 = true) (hc2 : Nat.beq (rz_cat u) 1 = true) (kk : rz_Wj G nL p l e R s m args below meth c Q (pc + 1) L (v :: u :: v :: u :: S) h k z) : rz_Wj G nL p l e R s m args below meth c Q pc L (v :: u :: S) h k z := by
  intro H locs ls st hl hs hp hf
  obtain ⟨w, st, rfl, h2, hs1⟩ := rz_skc hs
  obtain ⟨w2, st, rfl, h3, hs2⟩ := rz_skc hs1
  exact lv_dup2_11 C.1 C.2.1 hd (by rw [rz_vcat h2]; exact Nat.eq_of_beq_eq_true hc) (by rw [rz_vcat h3]; exact Nat.eq_of_beq_eq_true hc2) (kk H locs ls _ hl ⟨h2, h3, h2, h3, hs2⟩ hp hf)
theorem rz_o_iadd (C : rz_C G B i p l s m args meth c) {x y : rz_V} (hd : decode (rz_by i) pc = .ok (.iadd, 1)) (hy : rz_isI y = true) (hx : rz_isI x = true) (kk : rz_Wj G nL p l e R s m args below meth c Q (pc + 1) L (rz_add x y :: S) h k z) : rz_Wj G nL p l e R s m args below meth c Q pc L (y :: x :: S) h k z := by
  intro H locs ls st hl hs hp hf
  obtain ⟨w, st, rfl, h2, hs1⟩ := rz_skc hs
  obtain ⟨w2, st, rfl, h3, hs2⟩ := rz_skc hs1
  obtain ⟨v, rfl⟩ := rz_vI hy h2
  obtain ⟨u, rfl⟩ := rz_vI hx h3
  exact lv_iadd C.1 C.2.1 hd (kk H locs ls _ hl ⟨rz_vadd h3 h2, hs2⟩ hp hf)
theorem rz_o_isub (C : rz_C G B i p l s m args meth c) {x y : rz_V} (hd : decode (rz_by i) pc = .ok (.isub, 1)) (hy : rz_isI y = true) (hx : rz_isI x = true) (kk : rz_Wj G nL p l e R s m args below meth c Q (pc + 1) L (rz_sub x y :: S) h k z) : rz_Wj G nL p l e R s m args below meth c Q pc L (y :: x :: S) h k z := by
  intro H locs ls st hl hs hp hf
  obtain ⟨w, st, rfl, h2, hs1⟩ := rz_skc hs
  obtain ⟨w2, st, rfl, h3, hs2⟩ := rz_skc hs1
  obtain ⟨v, rfl⟩ := rz_vI hy h2
  obtain ⟨u, rfl⟩ := rz_vI hx h3
  exact lv_isub C.1 C.2.1 hd (kk H locs ls _ hl ⟨rz_vsub h3 h2, hs2⟩ hp hf)
theorem rz_o_imul (C : rz_C G B i p l s m args meth c) {x y : rz_V} (hd : decode (rz_by i) pc = .ok (.imul, 1)) (hy : rz_isI y = true) (hx : rz_isI x = true) (kk : rz_Wj G nL p l e R s m args below meth c Q (pc + 1) L (rz_mul x y :: S) h k z) : rz_Wj G nL p l e R s m args below meth c Q pc L (y :: x :: S) h k z := by
  intro H locs ls st hl hs hp hf
  obtain ⟨w, st, rfl, h2, hs1⟩ := rz_skc hs
  obtain ⟨w2, st, rfl, h3, hs2⟩ := rz_skc hs1
  obtain ⟨v, rfl⟩ := rz_vI hy h2
  obtain ⟨u, rfl⟩ := rz_vI hx h3
  exact lv_imul C.1 C.2.1 hd (kk H locs ls _ hl ⟨rz_vmul h3 h2, hs2⟩ hp hf)
theorem rz_Cb (C : rz_C G B i p l s m args meth c) : rz_in G B := C.2.2.2.2.2.2.2.2.2.2.2.1
theorem rz_Cg (C : rz_C G B i p l s m args meth c) : rz_Gk G := C.2.2.2.2.2.2.2.2.2.2.1
theorem rz_Cw (C : rz_C G B i p l s m args meth c) : rz_WI G rz_is0 s := C.2.2.2.2.2.2.2.2.2.1
theorem rz_o_iand (C : rz_C G B i p l s m args meth c) {x y : rz_V} (hd : decode (rz_by i) pc = .ok (.iand, 1)) (hy : rz_isI y = true) (hx : rz_isI x = true) (kk : rz_Wj G nL p l e R s m args below meth c Q (pc + 1) L (rz_and B x y :: S) h k z) : rz_Wj G nL p l e R s m args below meth c Q pc L (y :: x :: S) h k z := by
  intro H locs ls st hl hs hp hf
  obtain ⟨w, st, rfl, h2, hs1⟩ := rz_skc hs
  obtain ⟨w2, st, rfl, h3, hs2⟩ := rz_skc hs1
  obtain ⟨v, rfl⟩ := rz_vI hy h2
  obtain ⟨u, rfl⟩ := rz_vI hx h3
  exact lv_iand C.1 C.2.1 hd (kk H locs ls _ hl ⟨rz_vand (rz_Cb C) (rz_Cg C).2.2 h3 h2, hs2⟩ hp hf)
theorem rz_o_ladd (C : rz_C G B i p l s m args meth c) {x y : rz_V} (hd : decode (rz_by i) pc = .ok (.ladd, 1)) (hy : rz_isL y = true) (hx : rz_isL x = true) (kk : rz_Wj G nL p l e R s m args below meth c Q (pc + 1) L (rz_ladd x y :: S) h k z) : rz_Wj G nL p l e R s m args below meth c Q pc L (y :: x :: S) h k z := by
  intro H locs ls st hl hs hp hf
  obtain ⟨w, st, rfl, h2, hs1⟩ := rz_skc hs
  obtain ⟨w2, st, rfl, h3, hs2⟩ := rz_skc hs1
  obtain ⟨v, rfl⟩ := rz_vL hy h2
  obtain ⟨u, rfl⟩ := rz_vL hx h3
  exact lv_ladd C.1 C.2.1 hd (kk H locs ls _ hl ⟨rz_vladd h3 h2, hs2⟩ hp hf)
theorem rz_o_lsub (C : rz_C G B i p l s m args meth c) {x y : rz_V} (hd : decode (rz_by i) pc = .ok (.lsub, 1)) (hy : rz_isL y = true) (hx : rz_isL x = true) (kk : rz_Wj G nL p l e R s m args below meth c Q (pc + 1) L (rz_lsub x y :: S) h k z) : rz_Wj G nL p l e R s m args below meth c Q pc L (y :: x :: S) h k z := by
  intro H locs ls st hl hs hp hf
  obtain ⟨w, st, rfl, h2, hs1⟩ := rz_skc hs
  obtain ⟨w2, st, rfl, h3, hs2⟩ := rz_skc hs1
  obtain ⟨v, rfl⟩ := rz_vL hy h2
  obtain ⟨u, rfl⟩ := rz_vL hx h3
  exact lv_lsub C.1 C.2.1 hd (kk H locs ls _ hl ⟨rz_vlsub h3 h2, hs2⟩ hp hf)
theorem rz_o_land (C : rz_C G B i p l s m args meth c) {x y : rz_V} (hd : decode (rz_by i) pc = .ok (.land, 1)) (hy : rz_isL y = true) (hx : rz_isL x = true) (kk : rz_Wj G nL p l e R s m args below meth c Q (pc + 1) L (rz_land x y :: S) h k z) : rz_Wj G nL p l e R s m args below meth c Q pc L (y :: x :: S) h k z := by
  intro H locs ls st hl hs hp hf
  obtain ⟨w, st, rfl, h2, hs1⟩ := rz_skc hs
  obtain ⟨w2, st, rfl, h3, hs2⟩ := rz_skc hs1
  obtain ⟨v, rfl⟩ := rz_vL hy h2
  obtain ⟨u, rfl⟩ := rz_vL hx h3
  exact lv_land C.1 C.2.1 hd (kk H locs ls _ hl ⟨rz_vland h3 h2, hs2⟩ hp hf)
theorem rz_o_lor (C : rz_C G B i p l s m args meth c) {x y : rz_V} (hd : decode (rz_by i) pc = .ok (.lor, 1)) (hy : rz_isL y = true) (hx : rz_isL x = true) (kk : rz_Wj G nL p l e R s m args below meth c Q (pc + 1) L ((7, 0) :: S) h k z) : rz_Wj G nL p l e R s m args below meth c Q pc L (y :: x :: S) h k z := by
  intro H locs ls st hl hs hp hf
  obtain ⟨w, st, rfl, h2, hs1⟩ := rz_skc hs
  obtain ⟨w2, st, rfl, h3, hs2⟩ := rz_skc hs1
  obtain ⟨v, rfl⟩ := rz_vL hy h2
  obtain ⟨u, rfl⟩ := rz_vL hx h3
  exact lv_lor C.1 C.2.1 hd (kk H locs ls _ hl ⟨⟨_, rfl⟩, hs2⟩ hp hf)
theorem rz_o_lshl (C : rz_C G B i p l s m args meth c) {x y : rz_V} (hd : decode (rz_by i) pc = .ok (.lshl, 1)) (hy : rz_isI y = true) (hx : rz_isL x = true) (kk : rz_Wj G nL p l e R s m args below meth c Q (pc + 1) L ((7, 0) :: S) h k z) : rz_Wj G nL p l e R s m args below meth c Q pc L (y :: x :: S) h k z := by
  intro H locs ls st hl hs hp hf
  obtain ⟨w, st, rfl, h2, hs1⟩ := rz_skc hs
  obtain ⟨w2, st, rfl, h3, hs2⟩ := rz_skc hs1
  obtain ⟨v, rfl⟩ := rz_vI hy h2
  obtain ⟨u, rfl⟩ := rz_vL hx h3
  exact lv_lshl C.1 C.2.1 hd rfl (kk H locs ls _ hl ⟨⟨_, rfl⟩, hs2⟩ hp hf)
theorem rz_o_lcmp (C : rz_C G B i p l s m args meth c) {x y v : rz_V} (hd : decode (rz_by i) pc = .ok (.lcmp, 1)) (hv : rz_lcmp B x y = some v) (kk : rz_Wj G nL p l e R s m args below meth c Q (pc + 1) L (v :: S) h k z) : rz_Wj G nL p l e R s m args below meth c Q pc L (y :: x :: S) h k z := by
  intro H locs ls st hl hs hp hf
  obtain ⟨w, st, rfl, h2, hs1⟩ := rz_skc hs
  obtain ⟨w2, st, rfl, h3, hs2⟩ := rz_skc hs1
  obtain ⟨a, b, rfl, rfl, h4⟩ := rz_vlcmp (rz_Cb C) hv h3 h2
  exact W.lcmp C.1 C.2.1 hd (kk H locs ls _ hl ⟨h4, hs2⟩ hp hf)
theorem rz_o_i2l (C : rz_C G B i p l s m args meth c) {x : rz_V} (hd : decode (rz_by i) pc = .ok (.i2l, 1)) (hx : rz_isI x = true) (kk : rz_Wj G nL p l e R s m args below meth c Q (pc + 1) L (rz_i2l x :: S) h k z) : rz_Wj G nL p l e R s m args below meth c Q pc L (x :: S) h k z := by
  intro H locs ls st hl hs hp hf
  obtain ⟨w, st, rfl, h2, hs1⟩ := rz_skc hs
  obtain ⟨v, rfl⟩ := rz_vI hx h2
  exact lv_i2l C.1 C.2.1 hd rfl (kk H locs ls _ hl ⟨rz_vi2l hx h2, hs1⟩ hp hf)
theorem rz_o_l2i (C : rz_C G B i p l s m args meth c) {x : rz_V} (hd : decode (rz_by i) pc = .ok (.l2i, 1)) (hx : rz_isL x = true) (kk : rz_Wj G nL p l e R s m args below meth c Q (pc + 1) L (rz_l2i x :: S) h k z) : rz_Wj G nL p l e R s m args below meth c Q pc L (x :: S) h k z := by
  intro H locs ls st hl hs hp hf
  obtain ⟨w, st, rfl, h2, hs1⟩ := rz_skc hs
  obtain ⟨v, rfl⟩ := rz_vL hx h2
  exact lv_l2i C.1 C.2.1 hd rfl (kk H locs ls _ hl ⟨rz_vl2i h2, hs1⟩ hp hf)
theorem rz_jps {pc t : Nat} {off : Int} (h : rz_jp pc off = some t) : (pc : Int) + off = (t : Int) := by
  unfold rz_jp at h
  by_cases e : 0 ≤ (pc : Int) + off
  · simp only [e, decide_true, cond_true, Option.some.injEq] at h
    omega
  · simp [e] at h
theorem rz_o_goto (C : rz_C G B i p l s m args meth c) {off : Int} {t : Nat} (hd : decode (rz_by i) pc = .ok (.goto off, 3)) (ht : rz_jp pc off = some t) (kk : rz_Wj G nL p l e R s m args below meth c Q t L S h k z) : rz_Wj G nL p l e R s m args below meth c Q pc L S h k z := by
  intro H locs ls st hl hs hp hf
  exact lv_goto C.1 C.2.1 hd (rz_jps ht) (kk H locs ls _ hl hs hp hf)
theorem rz_o_ifnull_t (C : rz_C G B i p l s m args meth c) {x : rz_V} {off : Int} {t : Nat} (hd : decode (rz_by i) pc = .ok (.ifnull off, 3)) (hx : Nat.beq x.1 5 = true) (ht : rz_jp pc off = some t) (kk : rz_Wj G nL p l e R s m args below meth c Q t L S h k z) : rz_Wj G nL p l e R s m args below meth c Q pc L (x :: S) h k z := by
  intro H locs ls st hl hs hp hf
  obtain ⟨w, st, rfl, h2, hs1⟩ := rz_skc hs
  cases rz_v5 hx h2
  exact lv_ifnullN C.1 C.2.1 hd (rz_jps ht) (kk H locs ls _ hl hs1 hp hf)
theorem rz_o_ifnull_f (C : rz_C G B i p l s m args meth c) {x : rz_V} {off : Int} (hd : decode (rz_by i) pc = .ok (.ifnull off, 3)) (hx : Nat.beq x.1 4 = true) (kk : rz_Wj G nL p l e R s m args below meth c Q (pc + 3) L S h k z) : rz_Wj G nL p l e R s m args below meth c Q pc L (x :: S) h k z := by
  intro H locs ls st hl hs hp hf
  obtain ⟨w, st, rfl, h2, hs1⟩ := rz_skc hs
  cases rz_v4 hx h2
  exact lv_ifnull C.1 C.2.1 hd (kk H locs ls _ hl hs1 hp hf)
theorem rz_o_ifnon_t (C : rz_C G B i p l s m args meth c) {x : rz_V} {off : Int} {t : Nat} (hd : decode (rz_by i) pc = .ok (.ifnonnull off, 3)) (hx : Nat.beq x.1 4 = true) (ht : rz_jp pc off = some t) (kk : rz_Wj G nL p l e R s m args below meth c Q t L S h k z) : rz_Wj G nL p l e R s m args below meth c Q pc L (x :: S) h k z := by
  intro H locs ls st hl hs hp hf
  obtain ⟨w, st, rfl, h2, hs1⟩ := rz_skc hs
  cases rz_v4 hx h2
  exact lv_ifnonnull C.1 C.2.1 hd (rz_jps ht) (kk H locs ls _ hl hs1 hp hf)
theorem rz_o_ifnon_f (C : rz_C G B i p l s m args meth c) {x : rz_V} {off : Int} (hd : decode (rz_by i) pc = .ok (.ifnonnull off, 3)) (hx : Nat.beq x.1 5 = true) (kk : rz_Wj G nL p l e R s m args below meth c Q (pc + 3) L S h k z) : rz_Wj G nL p l e R s m args below meth c Q pc L (x :: S) h k z := by
  intro H locs ls st hl hs hp hf
  obtain ⟨w, st, rfl, h2, hs1⟩ := rz_skc hs
  cases rz_v5 hx h2
  exact lv_ifnonnullN C.1 C.2.1 hd (kk H locs ls _ hl hs1 hp hf)
end
