/-! Branches, switches, arrays, fields, new cells, returns. -/
def rz_cS (c : ClassFile.Cond) (x y : Int32) : Prop := match c with
  | .eq => x = y
  | .ne => ¬ x = y
  | .lt => x < y
  | .ge => y ≤ x
  | .gt => y < x
  | .le => x ≤ y
theorem rz_vcmp {G : rz_G} {B : rz_B} (hB : rz_in G B) {c : ClassFile.Cond} {a b : rz_V} {u w : Value} {r : Bool} (h : rz_cmp c B a b = some r) (ha : rz_vr G a u) (hb : rz_vr G b w) : ∃ x y : Int32, u = .int x ∧ w = .int y ∧ (r = true ↔ rz_cS c x y) := by
  cases c with
  | eq => exact rz_veq hB h ha hb
  | ne =>
    obtain ⟨x, y, h1, h2, h3⟩ := rz_veq hB (rz_nos h) ha hb
    refine ⟨x, y, h1, h2, ?_⟩
    show r = true ↔ ¬ x = y
    rw [← h3]; cases r <;> simp
  | lt => exact rz_vlt hB h ha hb
  | ge =>
    obtain ⟨x, y, h1, h2, h3⟩ := rz_vlt hB (rz_nos h) ha hb
    refine ⟨x, y, h1, h2, ?_⟩
    show r = true ↔ y ≤ x
    rw [← Int32.not_lt, ← h3]; cases r <;> simp
  | gt =>
    obtain ⟨x, y, h1, h2, h3⟩ := rz_vlt hB h hb ha
    exact ⟨y, x, h2, h1, h3⟩
  | le =>
    obtain ⟨x, y, h1, h2, h3⟩ := rz_vlt hB (rz_nos h) hb ha
    refine ⟨y, x, h2, h1, ?_⟩
    show r = true ↔ y ≤ x
    rw [← Int32.not_lt, ← h3]; cases r <;> simp
section
variable {G : rz_G} {B : rz_B} {i nL : Nat} {p : Program} {l : Launch} {e : Env} {R : Room} {s : State} {m : MethodId} {args : Array Value} {below : List Frame} {meth : Method} {c : Code}
variable {pc : Nat} {L : List (Nat × rz_V)} {S : List rz_V} {h : List rz_E} {k z : Nat} {Q : State → Prop} {H : Heap} {locs : List Loc} {ls : Array Slot} {rest : List Value} {cc : ByteArray}
theorem rz_icmp (hexec : p.tables.exec = Jvm.exec) (hb : c.code = cc) {cd : ClassFile.Cond} {x y : Int32} {off : Int} {tgt : Nat} (hdg : decode cc pc = .ok (.if_icmp cd off, 3)) (ht : (pc : Int) + off = (tgt : Int))
    (kt : rz_cS cd x y → W p l e R s m args below meth c H locs k z Q (F0 m tgt ls rest)) (kf : ¬ rz_cS cd x y → W p l e R s m args below meth c H locs k z Q (F0 m (pc + 3) ls rest)) : W p l e R s m args below meth c H locs k z Q (F0 m pc ls (.int y :: .int x :: rest)) := by
  cases cd with
  | eq => exact lv_icmp_eq hexec hb hdg ht kt kf
  | ne => exact lv_icmp_ne hexec hb hdg ht kt (fun h => kf (fun q => q h))
  | lt => exact lv_icmp_lt hexec hb hdg ht kt kf
  | ge => exact lv_icmp_ge hexec hb hdg ht kt kf
  | gt => exact lv_icmp_gt hexec hb hdg ht kt kf
  | le => exact lv_icmp_le hexec hb hdg ht kt kf
theorem rz_ifc (hexec : p.tables.exec = Jvm.exec) (hb : c.code = cc) {cd : ClassFile.Cond} {x : Int32} {off : Int} {tgt : Nat} (hdg : decode cc pc = .ok (.ifCond cd off, 3)) (ht : (pc : Int) + off = (tgt : Int))
    (kt : rz_cS cd x 0 → W p l e R s m args below meth c H locs k z Q (F0 m tgt ls rest)) (kf : ¬ rz_cS cd x 0 → W p l e R s m args below meth c H locs k z Q (F0 m (pc + 3) ls rest)) : W p l e R s m args below meth c H locs k z Q (F0 m pc ls (.int x :: rest)) := by
  cases cd with
  | eq => exact lv_if_eq hexec hb hdg ht kt kf
  | ne => exact lv_if_ne hexec hb hdg ht kt (fun h => kf (fun q => q h))
  | lt => exact lv_if_lt hexec hb hdg ht kt kf
  | ge => exact lv_if_ge hexec hb hdg ht kt kf
  | gt => exact lv_if_gt hexec hb hdg ht kt kf
  | le => exact lv_if_le hexec hb hdg ht kt kf
theorem rz_o_icmp (C : rz_C G B i p l s m args meth c) {cd : ClassFile.Cond} {x y : rz_V} {off : Int} {t : Nat} {r : Bool} (hd : decode (rz_by i) pc = .ok (.if_icmp cd off, 3)) (ht : rz_jp pc off = some t) (hr : rz_cmp cd B x y = some r) (kk : rz_Wj G nL p l e R s m args below meth c Q (if r = true then t else pc + 3) L S h k z) : rz_Wj G nL p l e R s m args below meth c Q pc L (y :: x :: S) h k z := by
  intro H locs ls st hl hs hp hf
  obtain ⟨w, st, rfl, h2, hs1⟩ := rz_skc hs
  obtain ⟨w2, st, rfl, h3, hs2⟩ := rz_skc hs1
  obtain ⟨a, b, rfl, rfl, h4⟩ := rz_vcmp (rz_Cb C) hr h3 h2
  have k9 := kk H locs ls _ hl hs2 hp hf
  refine rz_icmp C.1 C.2.1 hd (rz_jps ht) (fun q => ?_) (fun q => ?_)
  · rw [if_pos (h4.mpr q)] at k9; exact k9
  · rw [if_neg (fun z => q (h4.mp z))] at k9; exact k9
theorem rz_o_ifc (C : rz_C G B i p l s m args meth c) {cd : ClassFile.Cond} {x : rz_V} {off : Int} {t : Nat} {r : Bool} (hd : decode (rz_by i) pc = .ok (.ifCond cd off, 3)) (ht : rz_jp pc off = some t) (hr : rz_cmp cd B x (0, 0) = some r) (kk : rz_Wj G nL p l e R s m args below meth c Q (if r = true then t else pc + 3) L S h k z) : rz_Wj G nL p l e R s m args below meth c Q pc L (x :: S) h k z := by
  intro H locs ls st hl hs hp hf
  obtain ⟨w, st, rfl, h2, hs1⟩ := rz_skc hs
  obtain ⟨a, b, rfl, hb, h4⟩ := rz_vcmp (G := G) (rz_Cb C) hr h2 (w := .int 0) ⟨0, rfl, rfl⟩
  cases hb
  have k9 := kk H locs ls _ hl hs1 hp hf
  refine rz_ifc C.1 C.2.1 hd (rz_jps ht) (fun q => ?_) (fun q => ?_)
  · rw [if_pos (h4.mpr q)] at k9; exact k9
  · rw [if_neg (fun z => q (h4.mp z))] at k9; exact k9
theorem rz_nthL {α : Type} : ∀ {l : List α} {k : Nat} {x : α}, rz_nth l k = some x → l[k]? = some x
  | [], _, _, h => by cases h
  | _ :: _, 0, _, h => by simpa [rz_nth] using h
  | _ :: l, n + 1, x, h => by simpa using rz_nthL (l := l) (k := n) h
theorem rz_o_swOut (C : rz_C G B i p l s m args meth c) {x : rz_V} {d lo hi l0 u0 : Int} {offs : Array Int} {len t : Nat} (hd : decode (rz_by i) pc = .ok (.tableswitch d lo hi offs, len)) (hx : rz_itv B x = some (l0, u0)) (ho : hi < l0 ∨ u0 < lo) (ht : rz_jp pc d = some t) (kk : rz_Wj G nL p l e R s m args below meth c Q t L S h k z) : rz_Wj G nL p l e R s m args below meth c Q pc L (x :: S) h k z := by
  intro H locs ls st hl hs hp hf
  obtain ⟨w, st, rfl, h2, hs1⟩ := rz_skc hs
  obtain ⟨a, rfl, a1, a2⟩ := rz_vitv (rz_Cb C) hx h2
  exact lv_tableOut C.1 C.2.1 hd (by omega) (rz_jps ht) (kk H locs ls _ hl hs1 hp hf)
theorem rz_o_swIn (C : rz_C G B i p l s m args meth c) {x : rz_V} {d lo hi l0 u0 off : Int} {offs : Array Int} {len t : Nat} (hd : decode (rz_by i) pc = .ok (.tableswitch d lo hi offs, len)) (hx : rz_itv B x = some (l0, u0)) (he : l0 = u0) (h1 : lo ≤ l0) (h2 : l0 ≤ hi) (ho : rz_nth offs.toList (l0 - lo).toNat = some off) (ht : rz_jp pc off = some t) (kk : rz_Wj G nL p l e R s m args below meth c Q t L S h k z) : rz_Wj G nL p l e R s m args below meth c Q pc L (x :: S) h k z := by
  intro H locs ls st hl hs hp hf
  obtain ⟨w, st, rfl, h2, hs1⟩ := rz_skc hs
  obtain ⟨a, rfl, a1, a2⟩ := rz_vitv (rz_Cb C) hx h2
  have ea : a.toInt = l0 := by omega
  refine lv_tableIn C.1 C.2.1 hd (by omega) (by omega) (off := off) ?_ (rz_jps ht) (kk H locs ls _ hl hs1 hp hf)
  rw [ea, ← Array.getElem?_toList]
  exact rz_nthL ho
theorem rz_clamp {a : Int32} {n : Int} (h : a.toInt = n) (h0 : 0 ≤ n) : ¬ a < 0 ∧ a.toNatClampNeg = n.toNat := by
  subst h
  refine ⟨?_, ?_⟩
  · rw [Int32.lt_iff_toInt_lt, Int32.toInt_zero]; omega
  · first | rfl | (rw [Int32.toNatClampNeg]) | simp [Int32.toNatClampNeg]
theorem rz_cellk {G : rz_G} {e : rz_E} {cell : Cell} (hc : rz_cr G e cell) (hk : 0 < e.1) (hk2 : e.1 < 16) : cell.vm = .none ∧ cell.cls = rz_a G e.1 ∧ cell.slots.size = e.2.1 ∧ ∀ j : Nat, j < e.2.1 → ∃ v : Value, cell.slots[j]? = some v ∧ rz_vr G (rz_ael e j) v := by
  obtain ⟨h0, h | h | h⟩ := hc
  · omega
  · omega
  · exact ⟨h0, h.2.2⟩
theorem rz_cello {G : rz_G} {e : rz_E} {cell : Cell} (hc : rz_cr G e cell) (hk : e.1 = 0) : cell.vm = .none ∧ cell.cls = (rz_D G).1 e.2.1 ∧ ∀ (j : Nat) (a : rz_V), rz_nth e.2.2.1 j = some a → ∃ v : Value, cell.slots[(rz_D G).2 e.2.1 j]? = some v ∧ rz_vr G a v := by
  obtain ⟨h0, h | h | h⟩ := hc
  · exact ⟨h0, h.2⟩
  · omega
  · omega
theorem rz_arr {U : State} {cA : ClassId} {ty : FieldType} (h : ArrOfT U cA ty) {cell : Cell} (h1 : cell.cls = cA) (h2 : cell.vm = .none) : U.isArrayOf cell ty := by
  obtain ⟨g1, kA, g2, comp, g3⟩ := h 0 (fun _ => .null)
  exact ⟨fun k hk => (by rw [h2] at hk; cases hk), kA, (by rw [h1]; exact g2), comp, g3⟩
/-- an element's load: what the row for it needs -/
theorem rz_lds {a ix v : rz_V} {kd : Nat → Bool} (hld : rz_ld h kd ix a = some v) {u w : Value} (hp : rz_hp G h H) (ha : rz_vr G a u) (hi : rz_vr G ix w) (hkd : ∀ n, kd n = true → 0 < n ∧ n < 16) :
    ∃ (e : rz_E) (cell : Cell) (j : Int32) (x : Value), kd e.1 = true ∧ u = .ref (rz_n0 G + a.2.toNat) ∧ w = .int j ∧ H[rz_n0 G + a.2.toNat]? = some cell ∧ cell.vm = .none ∧ cell.cls = rz_a G e.1 ∧ ¬ (j < 0 ∨ cell.slots.size ≤ j.toNatClampNeg) ∧ cell.slots[j.toNatClampNeg]? = some x ∧ rz_vr G v x := by
  unfold rz_ld at hld
  cases hc : rz_cell h a with
  | none => simp [hc] at hld
  | some e =>
    simp only [hc] at hld
    cases hb : kd e.1 && (rz_k ix && (decide (0 ≤ ix.2) && Nat.blt ix.2.toNat e.2.1)) with
    | false => simp [hb] at hld
    | true =>
      simp only [hb, cond_true, Option.some.injEq] at hld
      subst hld
      simp only [Bool.and_eq_true, decide_eq_true_eq] at hb
      obtain ⟨b1, b2, b3, b4⟩ := hb
      have b4 := Nat.blt_eq.mp b4
      obtain ⟨rfl, -, cell, g1, g2⟩ := rz_cellat hp hc ha
      obtain ⟨j, rfl, hj⟩ := rz_vk b2 hi
      obtain ⟨c1, c2⟩ := rz_clamp hj b3
      obtain ⟨q1, q2⟩ := hkd _ b1
      obtain ⟨d1, d2, d3, d4⟩ := rz_cellk g2 q1 q2
      obtain ⟨x, x1, x2⟩ := d4 _ b4
      exact ⟨e, cell, j, x, b1, rfl, rfl, g1, d1, d2, by rw [d3, c2]; rintro (q | q); exact c1 q; omega, by rw [c2]; exact x1, x2⟩
theorem rz_vmk {cell : Cell} (h : cell.vm = .none) : cell.vm ≠ .unknown := by rw [h]; exact fun q => by cases q
theorem rz_o_laload (C : rz_C G B i p l s m args meth c) {x ix v : rz_V} (hd : decode (rz_by i) pc = .ok (.laload, 1)) (hv : rz_ld h (rz_is 2) ix x = some v) (kk : rz_Wj G nL p l e R s m args below meth c Q (pc + 1) L (v :: S) h k z) : rz_Wj G nL p l e R s m args below meth c Q pc L (ix :: x :: S) h k z := by
  intro H locs ls st hl hs hp hf
  obtain ⟨w, st, rfl, h2, hs1⟩ := rz_skc hs
  obtain ⟨w2, st, rfl, h3, hs2⟩ := rz_skc hs1
  obtain ⟨e0, cell, j, y, b1, rfl, rfl, g1, g2, g3, g4, g5, g6⟩ := rz_lds hv hp h3 h2 (fun n q => by cases Nat.eq_of_beq_eq_true q; omega)
  have e1 := Nat.eq_of_beq_eq_true b1
  have ha := ((rz_Cw C).2.1 2 rfl).1
  exact W.lald C.1 C.2.1 g1 (rz_arr ha (by rw [g3, e1]) g2) (rz_vmk g2) g4 g5 rfl rfl hd (kk H locs ls _ hl ⟨g6, hs2⟩ hp hf)
theorem rz_o_baload (C : rz_C G B i p l s m args meth c) {x ix v : rz_V} (hd : decode (rz_by i) pc = .ok (.baload, 1)) (hv : rz_ld h (rz_is 3) ix x = some v) (kk : rz_Wj G nL p l e R s m args below meth c Q (pc + 1) L (v :: S) h k z) : rz_Wj G nL p l e R s m args below meth c Q pc L (ix :: x :: S) h k z := by
  intro H locs ls st hl hs hp hf
  obtain ⟨w, st, rfl, h2, hs1⟩ := rz_skc hs
  obtain ⟨w2, st, rfl, h3, hs2⟩ := rz_skc hs1
  obtain ⟨e0, cell, j, y, b1, rfl, rfl, g1, g2, g3, g4, g5, g6⟩ := rz_lds hv hp h3 h2 (fun n q => by cases Nat.eq_of_beq_eq_true q; omega)
  have e1 := Nat.eq_of_beq_eq_true b1
  have ha := ((rz_Cw C).2.1 3 rfl).1
  exact W.zald C.1 C.2.1 g1 (rz_arr ha (by rw [g3, e1]) g2) (rz_vmk g2) g4 g5 rfl rfl hd (kk H locs ls _ hl ⟨g6, hs2⟩ hp hf)
theorem rz_o_iaload (C : rz_C G B i p l s m args meth c) {x ix v : rz_V} (hd : decode (rz_by i) pc = .ok (.iaload, 1)) (hv : rz_ld h (rz_is 1) ix x = some v) (kk : rz_Wj G nL p l e R s m args below meth c Q (pc + 1) L (v :: S) h k z) : rz_Wj G nL p l e R s m args below meth c Q pc L (ix :: x :: S) h k z := by
  intro H locs ls st hl hs hp hf
  obtain ⟨w, st, rfl, h2, hs1⟩ := rz_skc hs
  obtain ⟨w2, st, rfl, h3, hs2⟩ := rz_skc hs1
  obtain ⟨e0, cell, j, y, b1, rfl, rfl, g1, g2, g3, g4, g5, g6⟩ := rz_lds hv hp h3 h2 (fun n q => by cases Nat.eq_of_beq_eq_true q; omega)
  have e1 := Nat.eq_of_beq_eq_true b1
  have ha := ((rz_Cw C).2.1 1 rfl).1
  exact W.iald C.1 C.2.1 g1 (rz_arr ha (by rw [g3, e1]) g2) (rz_vmk g2) g4 g5 rfl rfl hd (kk H locs ls _ hl ⟨g6, hs2⟩ hp hf)
/-- the script's own -/
theorem rz_o_script (C : rz_C G B i p l s m args meth c) {x ix : rz_V} {lo hi : Int} (hd : decode (rz_by i) pc = .ok (.iaload, 1)) (hx : Nat.beq x.1 8 = true) (hk : rz_k ix = true) (h0 : 0 ≤ ix.2) (hB : rz_nth B 8 = some (lo, hi)) (hlt : ix.2 < lo) (kk : rz_Wj G nL p l e R s m args below meth c Q (pc + 1) L (rz_nm B ix.2.toNat :: S) h k z) : rz_Wj G nL p l e R s m args below meth c Q pc L (ix :: x :: S) h k z := by
  intro H locs ls st hl hs hp hf
  obtain ⟨w, st, rfl, h2, hs1⟩ := rz_skc hs
  obtain ⟨w2, st, rfl, h3, hs2⟩ := rz_skc hs1
  obtain ⟨j, rfl, hj⟩ := rz_vk hk h2
  cases rz_v8 hx h3
  obtain ⟨Ln, ⟨scr, x1, x2, x3, x4, x5⟩, hL8, hL⟩ := (rz_Cw C).2.2.1
  obtain ⟨c1, c2⟩ := rz_clamp hj h0
  have h8 := (rz_Cb C 8 lo hi hB).1
  have e8 : (rz_p G 8).toInt = (Ln : Int) := by
    rw [hL8]; exact toInt_of rfl (by omega)
  have hjL : ix.2.toNat < Ln := by omega
  refine W.iald (v := .int (rz_p G ix.2.toNat)) C.1 C.2.1 (by rw [hp.2.1 _ (rz_Cg C).2.1]; exact x1) x2 x3 ?_ ?_ rfl rfl hd (kk H locs ls _ hl ⟨rz_vnm (rz_Cb C) _, hs2⟩ hp hf)
  · rw [x4, c2]; rintro (q | q); exact c1 q; omega
  · rw [c2]; exact x5 _ hjL
theorem rz_o_slen (C : rz_C G B i p l s m args meth c) {x : rz_V} (hd : decode (rz_by i) pc = .ok (.arraylength, 1)) (hx : Nat.beq x.1 8 = true) (kk : rz_Wj G nL p l e R s m args below meth c Q (pc + 1) L (rz_nm B 8 :: S) h k z) : rz_Wj G nL p l e R s m args below meth c Q pc L (x :: S) h k z := by
  intro H locs ls st hl hs hp hf
  obtain ⟨w2, st, rfl, h3, hs2⟩ := rz_skc hs
  cases rz_v8 hx h3
  obtain ⟨Ln, ⟨scr, x1, x2, x3, x4, x5⟩, hL8, hL⟩ := (rz_Cw C).2.2.1
  exact W.alen (n := rz_p G 8) C.1 C.2.1 (by rw [hp.2.1 _ (rz_Cg C).2.1]; exact x1) x2 (by rw [x4, hL8]) rfl rfl hd (kk H locs ls _ hl ⟨rz_vnm (rz_Cb C) _, hs2⟩ hp hf)
theorem rz_akty : ∀ k, k < 16 → rz_ak k = true → 3 < k → rz_aty k = .object (rz_cn (k - 4)) := by
  intro k hk h1 h2
  have n1 : Nat.beq k 1 = false := by rw [Bool.eq_false_iff]; intro q; cases Nat.eq_of_beq_eq_true q; omega
  have n2 : Nat.beq k 2 = false := by rw [Bool.eq_false_iff]; intro q; cases Nat.eq_of_beq_eq_true q; omega
  have n3 : Nat.beq k 3 = false := by rw [Bool.eq_false_iff]; intro q; cases Nat.eq_of_beq_eq_true q; omega
  simp [rz_aty, n1, n2, n3]
end
