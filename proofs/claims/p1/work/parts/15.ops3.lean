/-! Cells: arrays of references, stores, fields, new ones. -/
section
variable {G : rz_G} {B : rz_B} {i nL : Nat} {p : Program} {l : Launch} {e : Env} {R : Room} {s : State} {m : MethodId} {args : Array Value} {below : List Frame} {meth : Method} {c : Code}
variable {pc : Nat} {L : List (Nat × rz_V)} {S : List rz_V} {h : List rz_E} {k z : Nat} {Q : State → Prop} {H : Heap} {locs : List Loc} {ls : Array Slot} {rest : List Value} {cc : ByteArray}
theorem rz_isRs {n : Nat} (hq : rz_isR n = true) : 3 < n ∧ n < 16 ∧ rz_ak n = true := by
  simp only [rz_isR, Bool.and_eq_true] at hq
  obtain ⟨h1, h2, h3⟩ := hq
  refine ⟨Nat.blt_eq.mp h1, Nat.blt_eq.mp h2, ?_⟩
  simp only [rz_ak, h3, Bool.or_true]
theorem rz_o_aaload (C : rz_C G B i p l s m args meth c) {x ix v : rz_V} (hd : decode (rz_by i) pc = .ok (.aaload, 1)) (hv : rz_ld h rz_isR ix x = some v) (kk : rz_Wj G nL p l e R s m args below meth c Q (pc + 1) L (v :: S) h k z) : rz_Wj G nL p l e R s m args below meth c Q pc L (ix :: x :: S) h k z := by
  intro H locs ls st hl hs hp hf
  obtain ⟨w, st, rfl, h2, hs1⟩ := rz_skc hs
  obtain ⟨w2, st, rfl, h3, hs2⟩ := rz_skc hs1
  obtain ⟨e0, cell, j, y, b1, rfl, rfl, g1, g2, g3, g4, g5, g6⟩ := rz_lds hv hp h3 h2 (fun n q => by have := rz_isRs q; omega)
  obtain ⟨b2, b3, b4⟩ := rz_isRs b1
  have ha := ((rz_Cw C).2.1 e0.1 b4).1
  rw [rz_akty _ b3 b4 b2] at ha
  exact W.aald C.1 C.2.1 g1 (rz_arr ha g3 g2) rfl (rz_vmk g2) g4 g5 rfl rfl hd (kk H locs ls _ hl ⟨g6, hs2⟩ hp hf)
theorem rz_slotset {cell : Cell} {j n : Nat} {x : Value} : (cell.setSlot j x).slots[n]? = if n = j ∧ j < cell.slots.size then some x else cell.slots[n]? := by
  by_cases hnj : n = j
  · subst hnj
    by_cases hlt : n < cell.slots.size
    · rw [if_pos ⟨rfl, hlt⟩]; exact Cell.slots_setSlot_self x hlt
    · rw [if_neg (fun q => hlt q.2)]
      simp [Cell.setSlot, Array.getElem?_setIfInBounds, hlt]
  · rw [if_neg (fun q => hnj q.1)]
    exact slot_ne _ _ (fun q => hnj q.symm)
/-- an element's store: what the row for it needs, and the heap behind it -/
theorem rz_ass {a ix v : rz_V} {h' : List rz_E} {kd : Nat → Bool} (hld : rz_as h kd v ix a = some h') {u w : Value} (hp : rz_hp G h H) (ha : rz_vr G a u) (hi : rz_vr G ix w) (hkd : ∀ n, kd n = true → 0 < n ∧ n < 16) :
    ∃ (e : rz_E) (cell : Cell) (j : Int32), kd e.1 = true ∧ u = .ref (rz_n0 G + a.2.toNat) ∧ w = .int j ∧ H[rz_n0 G + a.2.toNat]? = some cell ∧ cell.vm = .none ∧ cell.cls = rz_a G e.1 ∧ ¬ (j < 0 ∨ cell.slots.size ≤ j.toNatClampNeg) ∧
      ∀ (H' : Heap) (x : Value), rz_vr G v x → H'[rz_n0 G + a.2.toNat]? = some (cell.setSlot j.toNatClampNeg x) → H'.size = H.size → (∀ q, q ≠ rz_n0 G + a.2.toNat → H'[q]? = H[q]?) → rz_hp G h' H' := by
  unfold rz_as at hld
  cases hc : rz_cell h a with
  | none => simp [hc] at hld
  | some e =>
    simp only [hc] at hld
    cases hb : kd e.1 && (rz_k ix && (decide (0 ≤ ix.2) && Nat.blt ix.2.toNat e.2.1)) with
    | false => simp [hb] at hld
    | true =>
      simp only [hb, cond_true, Option.some.injEq] at hld
      subst hld
      simp only [Bool.and_eq_true, decide_eq_true_eq] at hb
      obtain ⟨b1, b2, b3, b4⟩ := hb
      have b4 := Nat.blt_eq.mp b4
      obtain ⟨rfl, -, cell, g1, g2⟩ := rz_cellat hp hc ha
      obtain ⟨j, rfl, hj⟩ := rz_vk b2 hi
      obtain ⟨c1, c2⟩ := rz_clamp hj b3
      obtain ⟨q1, q2⟩ := hkd _ b1
      obtain ⟨d1, d2, d3, d4⟩ := rz_cellk g2 q1 q2
      refine ⟨e, cell, j, b1, rfl, rfl, g1, d1, d2, by rw [d3, c2]; rintro (q | q); exact c1 q; omega, fun H' x hx e1 e2 e3 => ?_⟩
      refine rz_hput hp e1 e2 e3 ⟨d1, Or.inr (Or.inr ⟨q1, q2, d2, by rw [k2_slotsz]; exact d3, fun n hn => ?_⟩)⟩
      rw [c2]
      by_cases hnj : n = ix.2.toNat
      · subst hnj
        refine ⟨x, by rw [rz_slotset, if_pos ⟨rfl, by omega⟩], ?_⟩
        have : rz_ael (e.1, e.2.1, e.2.2.1, (ix.2.toNat, v) :: e.2.2.2) ix.2.toNat = v := by
          simp [rz_ael, rz_lk]
        rw [this]; exact hx
      · obtain ⟨y, y1, y2⟩ := d4 n hn
        refine ⟨y, by rw [rz_slotset, if_neg (fun q => hnj q.1)]; exact y1, ?_⟩
        have hb : Nat.beq ix.2.toNat n = false := by rw [Bool.eq_false_iff]; intro q; exact hnj (Nat.eq_of_beq_eq_true q).symm
        have : rz_ael (e.1, e.2.1, e.2.2.1, (ix.2.toNat, v) :: e.2.2.2) n = rz_ael e n := by
          simp [rz_ael, rz_lk, hb]
        rw [this]; exact y2
theorem rz_lapp {hf : ∀ q ∈ locs, rz_n0 G ≤ q.base} {a j : Nat} (ha : rz_n0 G ≤ a) : ∀ q ∈ locs ++ [(⟨a, j⟩ : Loc)], rz_n0 G ≤ q.base := by
  intro q hq
  rcases List.mem_append.mp hq with hq | hq
  · exact hf q hq
  · rw [List.mem_singleton.mp hq]; exact ha
theorem rz_o_iastore (C : rz_C G B i p l s m args meth c) {x ix v : rz_V} {h' : List rz_E} (hd : decode (rz_by i) pc = .ok (.iastore, 1)) (hI : rz_isI v = true) (hv : rz_as h (rz_is 1) v ix x = some h') (kk : rz_Wj G nL p l e R s m args below meth c Q (pc + 1) L S h' k z) : rz_Wj G nL p l e R s m args below meth c Q pc L (v :: ix :: x :: S) h k z := by
  intro H locs ls st hl hs hp hf
  obtain ⟨w0, st, rfl, h1, hs0⟩ := rz_skc hs
  obtain ⟨w, st, rfl, h2, hs1⟩ := rz_skc hs0
  obtain ⟨w2, st, rfl, h3, hs2⟩ := rz_skc hs1
  obtain ⟨y, rfl⟩ := rz_vI hI h1
  obtain ⟨e0, cell, j, b1, rfl, rfl, g1, g2, g3, g4, g5⟩ := rz_ass hv hp h3 h2 (fun n q => by cases Nat.eq_of_beq_eq_true q; omega)
  have e1 := Nat.eq_of_beq_eq_true b1
  have ha := ((rz_Cw C).2.1 1 rfl).1
  exact W.iast C.1 C.2.1 g1 (rz_arr ha (by rw [g3, e1]) g2) (rz_vmk g2) g4 rfl rfl hd (fun H' q1 q2 q3 => kk H' _ ls _ hl hs2 (g5 H' _ h1 q1 q2 q3) (rz_lapp (hf := hf) (by omega)))
theorem rz_o_lastore (C : rz_C G B i p l s m args meth c) {x ix v : rz_V} {h' : List rz_E} (hd : decode (rz_by i) pc = .ok (.lastore, 1)) (hI : rz_isL v = true) (hv : rz_as h (rz_is 2) v ix x = some h') (kk : rz_Wj G nL p l e R s m args below meth c Q (pc + 1) L S h' k z) : rz_Wj G nL p l e R s m args below meth c Q pc L (v :: ix :: x :: S) h k z := by
  intro H locs ls st hl hs hp hf
  obtain ⟨w0, st, rfl, h1, hs0⟩ := rz_skc hs
  obtain ⟨w, st, rfl, h2, hs1⟩ := rz_skc hs0
  obtain ⟨w2, st, rfl, h3, hs2⟩ := rz_skc hs1
  obtain ⟨y, rfl⟩ := rz_vL hI h1
  obtain ⟨e0, cell, j, b1, rfl, rfl, g1, g2, g3, g4, g5⟩ := rz_ass hv hp h3 h2 (fun n q => by cases Nat.eq_of_beq_eq_true q; omega)
  have e1 := Nat.eq_of_beq_eq_true b1
  have ha := ((rz_Cw C).2.1 2 rfl).1
  exact W.last C.1 C.2.1 g1 (rz_arr ha (by rw [g3, e1]) g2) (rz_vmk g2) g4 rfl rfl hd (fun H' q1 q2 q3 => kk H' _ ls _ hl hs2 (g5 H' _ h1 q1 q2 q3) (rz_lapp (hf := hf) (by omega)))
theorem rz_b01s {v : rz_V} {w : Value} (hb : rz_b01 v = true) (hv : rz_vr G v w) : ∃ y : Int32, w = .int y ∧ (y = 0 ∨ y = 1) := by
  simp only [rz_b01, Bool.or_eq_true, decide_eq_true_eq] at hb
  rcases hb with rfl | rfl
  · obtain ⟨y, h1, h2⟩ := hv
    exact ⟨y, h1, Or.inl (rz_int_eq h2)⟩
  · obtain ⟨y, h1, h2⟩ := hv
    exact ⟨y, h1, Or.inr (rz_int_eq h2)⟩
theorem rz_nb {y : Int32} (h : y = 0 ∨ y = 1) : narrow .boolean (.int y) = .int y := by
  rcases h with rfl | rfl
  · exact narrow_b0
  · exact narrow_b1
theorem rz_o_bastore (C : rz_C G B i p l s m args meth c) {x ix v : rz_V} {h' : List rz_E} (hd : decode (rz_by i) pc = .ok (.bastore, 1)) (hI : rz_b01 v = true) (hv : rz_as h (rz_is 3) v ix x = some h') (kk : rz_Wj G nL p l e R s m args below meth c Q (pc + 1) L S h' k z) : rz_Wj G nL p l e R s m args below meth c Q pc L (v :: ix :: x :: S) h k z := by
  intro H locs ls st hl hs hp hf
  obtain ⟨w0, st, rfl, h1, hs0⟩ := rz_skc hs
  obtain ⟨w, st, rfl, h2, hs1⟩ := rz_skc hs0
  obtain ⟨w2, st, rfl, h3, hs2⟩ := rz_skc hs1
  obtain ⟨y, rfl, hy⟩ := rz_b01s hI h1
  obtain ⟨e0, cell, j, b1, rfl, rfl, g1, g2, g3, g4, g5⟩ := rz_ass hv hp h3 h2 (fun n q => by cases Nat.eq_of_beq_eq_true q; omega)
  have e1 := Nat.eq_of_beq_eq_true b1
  have ha := ((rz_Cw C).2.1 3 rfl).1
  refine W.zast C.1 C.2.1 g1 (rz_arr ha (by rw [g3, e1]) g2) (rz_vmk g2) g4 rfl rfl hd (fun H' q1 q2 q3 => ?_)
  rw [rz_nb hy] at q1
  exact kk H' _ ls _ hl hs2 (g5 H' _ h1 q1 q2 q3) (rz_lapp (hf := hf) (by omega))
theorem rz_alen {h : List rz_E} (C : rz_C G B i p l s m args meth c) {x : rz_V} {e0 : rz_E} (hd : decode (rz_by i) pc = .ok (.arraylength, 1)) (hx : rz_cell h x = some e0) (h0 : 0 < e0.1) (h1 : e0.1 < 16) (hak : rz_ak e0.1 = true) (hn : (e0.2.1 : Int) ≤ 100000) (kk : rz_Wj G nL p l e R s m args below meth c Q (pc + 1) L ((0, (e0.2.1 : Int)) :: S) h k z) : rz_Wj G nL p l e R s m args below meth c Q pc L (x :: S) h k z := by
  intro H locs ls st hl hs hp hf
  obtain ⟨w2, st, rfl, h3, hs2⟩ := rz_skc hs
  obtain ⟨rfl, -, cell, g1, g2⟩ := rz_cellat hp hx h3
  obtain ⟨d1, d2, d3, d4⟩ := rz_cellk g2 h0 h1
  exact W.alen (n := Int32.ofNat e0.2.1) C.1 C.2.1 g1 (rz_arr ((rz_Cw C).2.1 _ hak).1 d2 d1) (by rw [d3]) rfl rfl hd (kk H locs ls _ hl ⟨⟨_, rfl, toInt_of rfl (by omega)⟩, hs2⟩ hp hf)
end
