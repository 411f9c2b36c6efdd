/-! What a value, a cell, a heap, a frame of the small machine stand for. -/
abbrev rz_G : Type := Nat × Nat × (Nat → Int32) × va_G × (Nat → ClassId) × ClassId × Heap
abbrev rz_n0 (G : rz_G) : Nat := G.1
abbrev rz_b (G : rz_G) : Nat := G.2.1
abbrev rz_p (G : rz_G) : Nat → Int32 := G.2.2.1
abbrev rz_D (G : rz_G) : va_G := G.2.2.2.1
abbrev rz_a (G : rz_G) : Nat → ClassId := G.2.2.2.2.1
abbrev rz_x (G : rz_G) : ClassId := G.2.2.2.2.2.1
abbrev rz_H0 (G : rz_G) : Heap := G.2.2.2.2.2.2
def rz_vr (G : rz_G) (a : rz_V) (v : Value) : Prop := match a with
  | (0, c) => ∃ x : Int32, v = .int x ∧ x.toInt = c
  | (1, c) => v = .int (rz_p G c.toNat)
  | (2, c) => ∃ x : Int64, v = .long x ∧ x.toInt = c
  | (3, c) => v = .long (rz_p G c.toNat).toInt64
  | (4, c) => v = .ref (rz_n0 G + c.toNat)
  | (5, _) => v = .null
  | (6, _) => ∃ x : Int32, v = .int x
  | (7, _) => ∃ x : Int64, v = .long x
  | (8, _) => v = .ref (rz_b G)
  | _ => False
theorem rz_or3 {t a b c : Nat} (h : (Nat.beq t a || (Nat.beq t b || Nat.beq t c)) = true) : t = a ∨ t = b ∨ t = c := by
  simp only [Bool.or_eq_true] at h
  exact h.imp Nat.eq_of_beq_eq_true (fun h => h.imp Nat.eq_of_beq_eq_true Nat.eq_of_beq_eq_true)
theorem rz_vI {G : rz_G} {a : rz_V} {v : Value} (h : rz_isI a = true) (r : rz_vr G a v) : ∃ x : Int32, v = .int x := by
  obtain ⟨t, c⟩ := a
  rcases rz_or3 h with rfl | rfl | rfl
  · obtain ⟨x, hx, -⟩ := r; exact ⟨x, hx⟩
  · exact ⟨_, r⟩
  · exact r
theorem rz_vL {G : rz_G} {a : rz_V} {v : Value} (h : rz_isL a = true) (r : rz_vr G a v) : ∃ x : Int64, v = .long x := by
  obtain ⟨t, c⟩ := a
  rcases rz_or3 h with rfl | rfl | rfl
  · obtain ⟨x, hx, -⟩ := r; exact ⟨x, hx⟩
  · exact ⟨_, r⟩
  · exact r
theorem rz_vA {G : rz_G} {a : rz_V} {v : Value} (h : rz_isA a = true) (r : rz_vr G a v) : v = .null ∨ ∃ x : Nat, v = .ref x := by
  obtain ⟨t, c⟩ := a
  rcases rz_or3 h with rfl | rfl | rfl
  · exact Or.inr ⟨_, r⟩
  · exact Or.inl r
  · exact Or.inr ⟨_, r⟩
theorem rz_vk {G : rz_G} {a : rz_V} {v : Value} (h : rz_k a = true) (r : rz_vr G a v) : ∃ x : Int32, v = .int x ∧ x.toInt = a.2 := by
  obtain ⟨t, c⟩ := a
  cases Nat.eq_of_beq_eq_true h
  exact r
theorem rz_vlk {G : rz_G} {a : rz_V} {v : Value} (h : rz_lk2 a = true) (r : rz_vr G a v) : ∃ x : Int64, v = .long x ∧ x.toInt = a.2 := by
  obtain ⟨t, c⟩ := a
  cases Nat.eq_of_beq_eq_true h
  exact r
theorem rz_v4 {G : rz_G} {a : rz_V} {v : Value} (h : Nat.beq a.1 4 = true) (r : rz_vr G a v) : v = .ref (rz_n0 G + a.2.toNat) := by
  obtain ⟨t, c⟩ := a
  cases Nat.eq_of_beq_eq_true h
  exact r
theorem rz_v5 {G : rz_G} {a : rz_V} {v : Value} (h : Nat.beq a.1 5 = true) (r : rz_vr G a v) : v = .null := by
  obtain ⟨t, c⟩ := a
  cases Nat.eq_of_beq_eq_true h
  exact r
theorem rz_v8 {G : rz_G} {a : rz_V} {v : Value} (h : Nat.beq a.1 8 = true) (r : rz_vr G a v) : v = .ref (rz_b G) := by
  obtain ⟨t, c⟩ := a
  cases Nat.eq_of_beq_eq_true h
  exact r
theorem rz_vcat {G : rz_G} {a : rz_V} {v : Value} (r : rz_vr G a v) : v.category = rz_cat a := by
  obtain ⟨t, c⟩ := a
  match t, r with
  | 0, r => obtain ⟨x, rfl, -⟩ := r; rfl
  | 1, r => cases r; rfl
  | 2, r => obtain ⟨x, rfl, -⟩ := r; rfl
  | 3, r => cases r; rfl
  | 4, r => cases r; rfl
  | 5, r => cases r; rfl
  | 6, r => obtain ⟨x, rfl⟩ := r; rfl
  | 7, r => obtain ⟨x, rfl⟩ := r; rfl
  | 8, r => cases r; rfl
  | n + 9, r => exact r.elim
/-- the script's ints lie in the box -/
def rz_in (G : rz_G) (B : rz_B) : Prop := ∀ (k : Nat) (lo hi : Int), rz_nth B k = some (lo, hi) → lo ≤ (rz_p G k).toInt ∧ (rz_p G k).toInt ≤ hi
theorem rz_vitv {G : rz_G} {B : rz_B} (hB : rz_in G B) {a : rz_V} {v : Value} {lo hi : Int} (h : rz_itv B a = some (lo, hi)) (r : rz_vr G a v) : ∃ x : Int32, v = .int x ∧ lo ≤ x.toInt ∧ x.toInt ≤ hi := by
  obtain ⟨t, c⟩ := a
  unfold rz_itv at h
  cases h0 : Nat.beq t 0 with
  | true =>
    cases Nat.eq_of_beq_eq_true h0
    simp at h
    obtain ⟨x, hx, hc⟩ := r
    exact ⟨x, hx, by omega, by omega⟩
  | false =>
    simp only [h0, cond_false] at h
    cases h1 : Nat.beq t 1 with
    | true =>
      cases Nat.eq_of_beq_eq_true h1
      exact ⟨_, r, hB c.toNat _ _ h⟩
    | false => simp [h1] at h
theorem rz_i64 (x : Int32) : x.toInt64.toInt = x.toInt := by first | exact Int32.toInt_toInt64 x | simp
theorem rz_vltv {G : rz_G} {B : rz_B} (hB : rz_in G B) {a : rz_V} {v : Value} {lo hi : Int} (h : rz_ltv B a = some (lo, hi)) (r : rz_vr G a v) : ∃ x : Int64, v = .long x ∧ lo ≤ x.toInt ∧ x.toInt ≤ hi := by
  obtain ⟨t, c⟩ := a
  unfold rz_ltv at h
  cases h0 : Nat.beq t 2 with
  | true =>
    cases Nat.eq_of_beq_eq_true h0
    simp at h
    obtain ⟨x, hx, hc⟩ := r
    exact ⟨x, hx, by omega, by omega⟩
  | false =>
    simp only [h0, cond_false] at h
    cases h1 : Nat.beq t 3 with
    | true =>
      cases Nat.eq_of_beq_eq_true h1
      have := hB c.toNat _ _ h
      exact ⟨_, r, by rw [rz_i64]; exact this.1, by rw [rz_i64]; exact this.2⟩
    | false => simp [h1] at h
theorem rz_vnm {G : rz_G} {B : rz_B} (hB : rz_in G B) (k : Nat) : rz_vr G (rz_nm B k) (.int (rz_p G k)) := by
  unfold rz_nm
  cases h : rz_nth B k with
  | none => exact ⟨_, rfl⟩
  | some q =>
    obtain ⟨lo, hi⟩ := q
    have := hB _ _ _ h
    by_cases e : lo = hi
    · simp only [e, decide_true, cond_true]
      exact ⟨_, rfl, by omega⟩
    · simp only [e, decide_false, cond_false]
      show Value.int _ = Value.int _
      simp
def rz_ls (G : rz_G) : List (Nat × rz_V) → List (Nat × Value) → Prop
  | [], [] => True
  | a :: L, q :: l => a.1 = q.1 ∧ rz_vr G a.2 q.2 ∧ rz_ls G L l
  | _, _ => False
def rz_sk (G : rz_G) : List rz_V → List Value → Prop
  | [], [] => True
  | a :: L, q :: l => rz_vr G a q ∧ rz_sk G L l
  | _, _ => False
def rz_loc (G : rz_G) (nL : Nat) (L : List (Nat × rz_V)) (ls : Array Slot) : Prop := ∃ lv, lv_has ls nL lv ∧ rz_ls G L lv
theorem rz_skc {G : rz_G} {a : rz_V} {S : List rz_V} {st : List Value} (h : rz_sk G (a :: S) st) : ∃ v st', st = v :: st' ∧ rz_vr G a v ∧ rz_sk G S st' := by
  cases st with
  | nil => exact h.elim
  | cons v st' => exact ⟨v, st', rfl, h.1, h.2⟩
theorem rz_sk0 {G : rz_G} {st : List Value} (h : rz_sk G [] st) : st = [] := by
  cases st with
  | nil => rfl
  | cons v st' => exact h.elim
theorem rz_skcat {G : rz_G} : ∀ {S : List rz_V} {st : List Value}, rz_sk G S st → (st.map fun v => v.category).sum = rz_cats S
  | [], st, h => by rw [rz_sk0 h]; rfl
  | a :: S, st, h => by
    obtain ⟨v, st', rfl, h1, h2⟩ := rz_skc h
    simp only [List.map_cons, List.sum_cons, rz_cats, rz_vcat h1, rz_skcat h2]
/-- a local's value -/
theorem rz_lsat {G : rz_G} : ∀ {L : List (Nat × rz_V)} {lv : List (Nat × Value)} {i : Nat} {a : rz_V}, rz_ls G L lv → rz_lk L i = some a → ∃ (k : Nat) (v : Value), lv[k]? = some (i, v) ∧ rz_vr G a v
  | [], _, _, _, _, h => by cases h
  | q :: L, [], _, _, h, _ => h.elim
  | q :: L, (j, w) :: l, i, a, h, hk => by
    obtain ⟨h1, h2, h3⟩ := h
    unfold rz_lk at hk
    cases e : Nat.beq q.1 i with
    | true =>
      simp only [e, cond_true, Option.some.injEq] at hk
      subst hk
      cases Nat.eq_of_beq_eq_true e
      exact ⟨0, w, by simp [h1], h2⟩
    | false =>
      simp only [e, cond_false] at hk
      obtain ⟨k, v, hk1, hk2⟩ := rz_lsat h3 hk
      exact ⟨k + 1, v, by simpa using hk1, hk2⟩
theorem rz_locat {G : rz_G} {nL : Nat} {L : List (Nat × rz_V)} {ls : Array Slot} {i : Nat} {a : rz_V} (h : rz_loc G nL L ls) (hk : rz_lk L i = some a) : ∃ v : Value, ls[i]? = some (.val v) ∧ rz_vr G a v := by
  obtain ⟨lv, h1, h2⟩ := h
  obtain ⟨k, v, hk1, hk2⟩ := rz_lsat h2 hk
  exact ⟨v, lv_at h1 k hk1, hk2⟩
theorem rz_lsf {G : rz_G} {P : Nat × rz_V → Bool} {P' : Nat × Value → Bool} (hP : ∀ (i : Nat) (a : rz_V) (v : Value), rz_vr G a v → P (i, a) = P' (i, v)) : ∀ {L : List (Nat × rz_V)} {lv : List (Nat × Value)}, rz_ls G L lv → rz_ls G (L.filter P) (lv.filter P')
  | [], [], _ => trivial
  | [], _ :: _, h => h.elim
  | _ :: _, [], h => h.elim
  | (i, a) :: L, (j, v) :: l, h => by
    obtain ⟨h1, h2, h3⟩ := h
    cases h1
    have e := hP i a v h2
    cases hp : P (i, a) with
    | true =>
      rw [List.filter_cons_of_pos hp, List.filter_cons_of_pos (by rw [← e]; exact hp)]
      exact ⟨rfl, h2, rz_lsf hP h3⟩
    | false =>
      rw [List.filter_cons_of_neg (by simp [hp]), List.filter_cons_of_neg (by rw [← e]; simp [hp])]
      exact rz_lsf hP h3
theorem rz_ls1 {G : rz_G} {L : List (Nat × rz_V)} {lv : List (Nat × Value)} {i : Nat} {a : rz_V} {v : Value} (h : rz_ls G L lv) (r : rz_vr G a v) : rz_ls G (rz_st1 L i a) ((i, v) :: lv.filter (fun q => !(q.1 == i) && !(q.1 + 1 == i && q.2.category == 2))) :=
  ⟨rfl, r, rz_lsf (fun j a v hr => by simp only [rz_vcat hr]) h⟩
theorem rz_ls2 {G : rz_G} {L : List (Nat × rz_V)} {lv : List (Nat × Value)} {i : Nat} {a : rz_V} {v : Value} (h : rz_ls G L lv) (r : rz_vr G a v) : rz_ls G (rz_st2 L i a) ((i, v) :: lv.filter (fun q => !(q.1 == i) && (!(q.1 == i + 1) && !(q.1 + 1 == i && q.2.category == 2)))) :=
  ⟨rfl, r, rz_lsf (fun j a v hr => by simp only [rz_vcat hr]) h⟩
theorem rz_sk_args {G : rz_G} : ∀ {k : Nat} {as : List rz_V} {vs : List Value}, rz_sk G as vs → rz_ls G (rz_ar k as) (lv_args k vs)
  | _, [], vs, h => by rw [rz_sk0 h]; trivial
  | k, a :: as, vs, h => by
    obtain ⟨v, vs', rfl, h1, h2⟩ := rz_skc h
    refine ⟨rfl, h1, ?_⟩
    have := rz_sk_args (k := k + rz_cat a) h2
    rw [← rz_vcat h1] at this ⊢
    have e : (if v.category = 2 then k + 2 else k + 1) = k + v.category := by
      rcases lv_cat v with e | e <;> simp [e]
    show rz_ls G _ (lv_args (if v.category = 2 then k + 2 else k + 1) vs')
    rw [e]
    exact this
/-- a cell -/
def rz_cr (G : rz_G) (e : rz_E) (cell : Cell) : Prop := cell.vm = .none ∧
  ((e.1 = 0 ∧ cell.cls = (rz_D G).1 e.2.1 ∧ ∀ (j : Nat) (a : rz_V), rz_nth e.2.2.1 j = some a → ∃ v : Value, cell.slots[(rz_D G).2 e.2.1 j]? = some v ∧ rz_vr G a v) ∨
   (e.1 = 100 ∧ cell.cls = rz_x G) ∨
   (0 < e.1 ∧ e.1 < 16 ∧ cell.cls = rz_a G e.1 ∧ cell.slots.size = e.2.1 ∧ ∀ j : Nat, j < e.2.1 → ∃ v : Value, cell.slots[j]? = some v ∧ rz_vr G (rz_ael e j) v))
def rz_hp (G : rz_G) (h : List rz_E) (H : Heap) : Prop := H.size = rz_n0 G + h.length ∧ (∀ q : Nat, q < rz_n0 G → H[q]? = (rz_H0 G)[q]?) ∧ ∀ (k : Nat) (e : rz_E), rz_nth h k = some e → ∃ cell : Cell, H[rz_n0 G + k]? = some cell ∧ rz_cr G e cell
theorem rz_nth_lt {α : Type} : ∀ {l : List α} {k : Nat} {x : α}, rz_nth l k = some x → k < l.length
  | [], _, _, h => by cases h
  | _ :: _, 0, _, _ => by simp
  | _ :: l, n + 1, x, h => by
    have := rz_nth_lt (l := l) (k := n) h
    simp; omega
theorem rz_nth_app {α : Type} {y : α} : ∀ {l : List α} {k : Nat} {x : α}, rz_nth (l ++ [y]) k = some x → rz_nth l k = some x ∨ (k = l.length ∧ x = y)
  | [], 0, x, h => by right; exact ⟨rfl, (Option.some.inj h).symm⟩
  | [], n + 1, x, h => by cases h
  | z :: l, 0, x, h => Or.inl h
  | z :: l, n + 1, x, h => by
    rcases rz_nth_app (l := l) (k := n) h with h | ⟨h1, h2⟩
    · exact Or.inl h
    · exact Or.inr ⟨by simp [h1], h2⟩
theorem rz_nth_set {α : Type} {y : α} : ∀ {l : List α} {k j : Nat} {x : α}, rz_nth (rz_set l k y) j = some x → (j = k ∧ x = y) ∨ (j ≠ k ∧ rz_nth l j = some x)
  | [], _, _, _, h => by cases h
  | _ :: l, 0, 0, x, h => Or.inl ⟨rfl, (Option.some.inj h).symm⟩
  | _ :: l, 0, n + 1, x, h => Or.inr ⟨by omega, h⟩
  | z :: l, k + 1, 0, x, h => Or.inr ⟨by omega, h⟩
  | z :: l, k + 1, n + 1, x, h => by
    rcases rz_nth_set (l := l) (k := k) (j := n) h with ⟨h1, h2⟩ | ⟨h1, h2⟩
    · exact Or.inl ⟨by omega, h2⟩
    · exact Or.inr ⟨by omega, h2⟩
theorem rz_set_len {α : Type} {y : α} : ∀ (l : List α) (k : Nat), (rz_set l k y).length = l.length
  | [], _ => rfl
  | _ :: l, 0 => rfl
  | _ :: l, k + 1 => by simp [rz_set, rz_set_len l k]
/-- one cell is written -/
theorem rz_hput {G : rz_G} {h : List rz_E} {H H' : Heap} (hp : rz_hp G h H) {k : Nat} {e : rz_E} {cell : Cell} (h1 : H'[rz_n0 G + k]? = some cell) (hz : H'.size = H.size) (hq : ∀ q, q ≠ rz_n0 G + k → H'[q]? = H[q]?) (hc : rz_cr G e cell) : rz_hp G (rz_set h k e) H' := by
  obtain ⟨a1, a2, a3⟩ := hp
  refine ⟨by rw [hz, a1, rz_set_len], fun q hlt => by rw [hq q (by omega)]; exact a2 q hlt, fun j e' hj => ?_⟩
  rcases rz_nth_set hj with ⟨rfl, rfl⟩ | ⟨hne, hj⟩
  · exact ⟨cell, h1, hc⟩
  · obtain ⟨c', g1, g2⟩ := a3 j e' hj
    exact ⟨c', by rw [hq _ (by omega)]; exact g1, g2⟩
/-- a cell comes -/
theorem rz_hnew {G : rz_G} {h : List rz_E} {H H' : Heap} (hp : rz_hp G h H) {e : rz_E} {cell : Cell} (h1 : H'[H.size]? = some cell) (hz : H'.size = H.size + 1) (hq : ∀ q, q < H.size → H'[q]? = H[q]?) (hc : rz_cr G e cell) : rz_hp G (h ++ [e]) H' := by
  obtain ⟨a1, a2, a3⟩ := hp
  refine ⟨by rw [hz, a1]; simp; omega, fun q hlt => by rw [hq q (by omega)]; exact a2 q hlt, fun j e' hj => ?_⟩
  rcases rz_nth_app hj with hj | ⟨rfl, rfl⟩
  · obtain ⟨c', g1, g2⟩ := a3 j e' hj
    have := rz_nth_lt hj
    exact ⟨c', by rw [hq _ (by omega)]; exact g1, g2⟩
  · exact ⟨cell, by rw [← a1]; exact h1, hc⟩
theorem rz_cellat {G : rz_G} {h : List rz_E} {H : Heap} {a : rz_V} {e : rz_E} {v : Value} (hp : rz_hp G h H) (hc : rz_cell h a = some e) (r : rz_vr G a v) : v = .ref (rz_n0 G + a.2.toNat) ∧ rz_nth h a.2.toNat = some e ∧ ∃ cell : Cell, H[rz_n0 G + a.2.toNat]? = some cell ∧ rz_cr G e cell := by
  unfold rz_cell at hc
  cases e4 : Nat.beq a.1 4 with
  | true =>
    simp only [e4, cond_true] at hc
    exact ⟨rz_v4 e4 r, hc, hp.2.2 _ _ hc⟩
  | false => simp [e4] at hc
