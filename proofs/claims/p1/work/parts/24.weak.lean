/-! What is covered by a weaker state. -/
section
variable {G : rz_G}
theorem rz_leVs {a b : rz_V} {v : Value} (h : rz_leV a b = true) (r : rz_vr G a v) : rz_vr G b v := by
  simp only [rz_leV, Bool.or_eq_true, Bool.and_eq_true, decide_eq_true_eq] at h
  rcases h with ⟨h1, h2⟩ | ⟨rfl, h2⟩ | ⟨rfl, h2⟩
  · obtain ⟨t, c⟩ := a
    obtain ⟨t', c'⟩ := b
    cases Nat.eq_of_beq_eq_true h1
    cases h2
    exact r
  · exact rz_vI h2 r
  · exact rz_vL h2 r
theorem rz_leLs : ∀ {l m : List rz_V} {st : List Value}, rz_leL l m = true → rz_sk G l st → rz_sk G m st
  | [], [], st, _, h => h
  | [], _ :: _, _, h, _ => by cases h
  | _ :: _, [], _, h, _ => by cases h
  | a :: l, b :: m, st, h, hs => by
    simp only [rz_leL, Bool.and_eq_true] at h
    obtain ⟨v, st', rfl, h1, h2⟩ := rz_skc hs
    exact ⟨rz_leVs h.1 h1, rz_leLs h.2 h2⟩
theorem rz_leAs : ∀ {l m : List (Nat × rz_V)} {lv : List (Nat × Value)}, rz_leA l m = true → rz_ls G l lv → rz_ls G m lv
  | [], [], st, _, h => h
  | [], _ :: _, _, h, _ => by cases h
  | _ :: _, [], _, h, _ => by cases h
  | a :: l, b :: m, [], h, hs => hs.elim
  | a :: l, b :: m, q :: lv, h, hs => by
    simp only [rz_leA, Bool.and_eq_true] at h
    obtain ⟨h1, h2, h3⟩ := hs
    exact ⟨(Nat.eq_of_beq_eq_true h.1).symm.trans h1, rz_leVs h.2.1 h2, rz_leAs h.2.2 h3⟩
theorem rz_leLn : ∀ {l m : List rz_V} {j : Nat} {b : rz_V}, rz_leL l m = true → rz_nth m j = some b → ∃ a, rz_nth l j = some a ∧ rz_leV a b = true
  | [], [], _, _, _, h => by cases h
  | [], _ :: _, _, _, h, _ => by cases h
  | _ :: _, [], _, _, h, _ => by cases h
  | a :: l, b :: m, 0, c, h, hj => by
    simp only [rz_leL, Bool.and_eq_true] at h
    have e : b = c := Option.some.inj hj
    subst e
    exact ⟨a, rfl, h.1⟩
  | a :: l, b :: m, n + 1, c, h, hj => by
    simp only [rz_leL, Bool.and_eq_true] at h
    exact rz_leLn (l := l) (m := m) h.2 hj
theorem rz_leAk : ∀ {l m : List (Nat × rz_V)} {j : Nat}, rz_leA l m = true → (rz_lk l j = none ∧ rz_lk m j = none) ∨ ∃ a b, rz_lk l j = some a ∧ rz_lk m j = some b ∧ rz_leV a b = true
  | [], [], _, _ => Or.inl ⟨rfl, rfl⟩
  | [], _ :: _, _, h => by cases h
  | _ :: _, [], _, h => by cases h
  | a :: l, b :: m, j, h => by
    simp only [rz_leA, Bool.and_eq_true] at h
    have e := Nat.eq_of_beq_eq_true h.1
    cases hj : Nat.beq a.1 j with
    | true =>
      refine Or.inr ⟨a.2, b.2, ?_, ?_, h.2.1⟩
      · simp [rz_lk, hj]
      · rw [e] at hj; simp [rz_lk, hj]
    | false =>
      have hj' : Nat.beq b.1 j = false := by rw [← e]; exact hj
      have ih := rz_leAk (l := l) (m := m) (j := j) h.2.2
      simp only [rz_lk, hj, hj', cond_false]
      exact ih
theorem rz_leEs {a b : rz_E} {cell : Cell} (h : rz_leE a b = true) (r : rz_cr G a cell) : rz_cr G b cell := by
  obtain ⟨ka, na, fa, ua⟩ := a
  obtain ⟨kb, nb, fb, ub⟩ := b
  simp only [rz_leE, Bool.and_eq_true] at h
  obtain ⟨h1, h2, h3, h4⟩ := h
  cases Nat.eq_of_beq_eq_true h1
  cases Nat.eq_of_beq_eq_true h2
  obtain ⟨r0, r1 | r1 | r1⟩ := r
  · refine ⟨r0, Or.inl ⟨r1.1, r1.2.1, fun j b9 hj => ?_⟩⟩
    obtain ⟨a9, g1, g2⟩ := rz_leLn h3 hj
    obtain ⟨v, v1, v2⟩ := r1.2.2 j a9 g1
    exact ⟨v, v1, rz_leVs g2 v2⟩
  · exact ⟨r0, Or.inr (Or.inl r1)⟩
  · refine ⟨r0, Or.inr (Or.inr ⟨r1.1, r1.2.1, r1.2.2.1, r1.2.2.2.1, fun j hj => ?_⟩)⟩
    obtain ⟨v, v1, v2⟩ := r1.2.2.2.2 j hj
    refine ⟨v, v1, ?_⟩
    rcases rz_leAk (j := j) h4 with ⟨g1, g2⟩ | ⟨x, y, g1, g2, g3⟩
    · simp only [rz_ael, g1] at v2
      simp only [rz_ael, g2]
      exact v2
    · simp only [rz_ael, g1] at v2
      simp only [rz_ael, g2]
      exact rz_leVs g3 v2
theorem rz_leHl : ∀ {l m : List rz_E}, rz_leH l m = true → l.length = m.length
  | [], [], _ => rfl
  | [], _ :: _, h => by cases h
  | _ :: _, [], h => by cases h
  | a :: l, b :: m, h => by
    simp only [rz_leH, Bool.and_eq_true] at h
    simp [rz_leHl h.2]
theorem rz_leHn : ∀ {l m : List rz_E} {j : Nat} {b : rz_E}, rz_leH l m = true → rz_nth m j = some b → ∃ a, rz_nth l j = some a ∧ rz_leE a b = true
  | [], [], _, _, _, h => by cases h
  | [], _ :: _, _, _, h, _ => by cases h
  | _ :: _, [], _, _, h, _ => by cases h
  | a :: l, b :: m, 0, c, h, hj => by
    simp only [rz_leH, Bool.and_eq_true] at h
    have e : b = c := Option.some.inj hj
    subst e
    exact ⟨a, rfl, h.1⟩
  | a :: l, b :: m, n + 1, c, h, hj => by
    simp only [rz_leH, Bool.and_eq_true] at h
    exact rz_leHn (l := l) (m := m) h.2 hj
theorem rz_leHs {l m : List rz_E} {H : Heap} (h : rz_leH l m = true) (hp : rz_hp G l H) : rz_hp G m H := by
  refine ⟨by rw [hp.1, rz_leHl h], hp.2.1, fun k b hb => ?_⟩
  obtain ⟨a, g1, g2⟩ := rz_leHn h hb
  obtain ⟨cell, c1, c2⟩ := hp.2.2 k a g1
  exact ⟨cell, c1, rz_leEs g2 c2⟩
variable {nL : Nat} {p : Program} {l : Launch} {e : Env} {R : Room} {s : State} {m : MethodId} {args : Array Value} {below : List Frame} {meth : Method} {c : Code} {Q : State → Prop}
theorem rz_leFs {a b : rz_F} (h : rz_leF a b = true) (kk : rz_Wj G nL p l e R s m args below meth c Q b.1 b.2.1 b.2.2.1 b.2.2.2.1 b.2.2.2.2.1 b.2.2.2.2.2) : rz_Wj G nL p l e R s m args below meth c Q a.1 a.2.1 a.2.2.1 a.2.2.2.1 a.2.2.2.2.1 a.2.2.2.2.2 := by
  simp only [rz_leF, Bool.and_eq_true] at h
  obtain ⟨h1, h2, h3, h4, h5, h6⟩ := h
  intro H locs ls st hl hs hp hf
  obtain ⟨lv, l1, l2⟩ := hl
  rw [Nat.eq_of_beq_eq_true h1]
  exact W.widen (Nat.ble_eq.mp h5) (Nat.ble_eq.mp h6) (kk H locs ls st ⟨lv, l1, rz_leAs h2 l2⟩ (rz_leLs h3 hs) (rz_leHs h4 hp) hf)
end
