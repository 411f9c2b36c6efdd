theorem rz_bm {n : Int} {M : Nat} (h1 : -(M : Int) ≤ n * 2) (h2 : n * 2 < M) : n.bmod M = n := by
  rw [Int.bmod_def]
  have hM : (0 : Int) < M := by omega
  by_cases h0 : 0 ≤ n
  · rw [Int.emod_eq_of_lt h0 (by omega), if_pos (by omega)]
  · have : n % (M : Int) = n + M := by
      rw [← Int.add_emod_right, Int.emod_eq_of_lt (by omega) (by omega)]
    rw [this, if_neg (by omega)]; omega
theorem rz_vii {G : rz_G} {r : Int} {x : Int32} (h : rz_r32 r = true → x.toInt = r) : rz_vr G (rz_ii r) (.int x) := by
  unfold rz_ii
  cases e : rz_r32 r with
  | true => exact ⟨x, rfl, h e⟩
  | false => exact ⟨x, rfl⟩
theorem rz_vli {G : rz_G} {r : Int} {x : Int64} (h : rz_r64 r = true → x.toInt = r) : rz_vr G (rz_li r) (.long x) := by
  unfold rz_li
  cases e : rz_r64 r with
  | true => exact ⟨x, rfl, h e⟩
  | false => exact ⟨x, rfl⟩
theorem rz_r32s {r : Int} (h : rz_r32 r = true) : -2147483648 ≤ r ∧ r ≤ 2147483647 := by
  simpa [rz_r32] using h
theorem rz_r64s {r : Int} (h : rz_r64 r = true) : -9223372036854775808 ≤ r ∧ r ≤ 9223372036854775807 := by
  simpa [rz_r64] using h
theorem rz_kint {G : rz_G} {a : rz_V} {u : Int32} (h : rz_k a = true) (r : rz_vr G a (.int u)) : u.toInt = a.2 := by
  obtain ⟨x, hx, e⟩ := rz_vk h r
  cases hx
  exact e
theorem rz_klong {G : rz_G} {a : rz_V} {u : Int64} (h : rz_lk2 a = true) (r : rz_vr G a (.long u)) : u.toInt = a.2 := by
  obtain ⟨x, hx, e⟩ := rz_vlk h r
  cases hx
  exact e
theorem rz_vadd {G : rz_G} {a b : rz_V} {u w : Int32} (ha : rz_vr G a (.int u)) (hb : rz_vr G b (.int w)) : rz_vr G (rz_add a b) (.int (u + w)) := by
  unfold rz_add
  cases e : rz_k a && rz_k b with
  | true =>
    simp only [Bool.and_eq_true] at e
    refine rz_vii fun h => ?_
    have h := rz_r32s h
    have e1 := rz_kint e.1 ha
    have e2 := rz_kint e.2 hb
    rw [Int32.toInt_add, e1, e2]
    exact rz_bm (by omega) (by omega)
  | false => exact ⟨_, rfl⟩
theorem rz_vsub {G : rz_G} {a b : rz_V} {u w : Int32} (ha : rz_vr G a (.int u)) (hb : rz_vr G b (.int w)) : rz_vr G (rz_sub a b) (.int (u - w)) := by
  unfold rz_sub
  cases e : rz_k a && rz_k b with
  | true =>
    simp only [Bool.and_eq_true] at e
    refine rz_vii fun h => ?_
    have h := rz_r32s h
    have e1 := rz_kint e.1 ha
    have e2 := rz_kint e.2 hb
    rw [Int32.toInt_sub, e1, e2]
    exact rz_bm (by omega) (by omega)
  | false => exact ⟨_, rfl⟩
theorem rz_vmul {G : rz_G} {a b : rz_V} {u w : Int32} (ha : rz_vr G a (.int u)) (hb : rz_vr G b (.int w)) : rz_vr G (rz_mul a b) (.int (u * w)) := by
  unfold rz_mul
  cases e : rz_k a && rz_k b with
  | true =>
    simp only [Bool.and_eq_true] at e
    refine rz_vii fun h => ?_
    have h := rz_r32s h
    have e1 := rz_kint e.1 ha
    have e2 := rz_kint e.2 hb
    rw [Int32.toInt_mul, e1, e2]
    generalize a.2 * b.2 = n at h ⊢
    exact rz_bm (by omega) (by omega)
  | false => exact ⟨_, rfl⟩
theorem rz_int_eq {x y : Int32} (h : x.toInt = y.toInt) : x = y := Int32.toInt_inj.mp h
theorem rz_long_eq {x y : Int64} (h : x.toInt = y.toInt) : x = y := Int64.toInt_inj.mp h
theorem rz_vand {G : rz_G} {B : rz_B} (hB : rz_in G B) (h9 : rz_p G 9 = rz_p G 1 &&& 31) {a b : rz_V} {u w : Int32} (ha : rz_vr G a (.int u)) (hb : rz_vr G b (.int w)) : rz_vr G (rz_and B a b) (.int (u &&& w)) := by
  unfold rz_and
  cases e : decide (a = (1, 1)) && decide (b = (0, 31)) with
  | true =>
    simp only [Bool.and_eq_true, decide_eq_true_eq] at e
    obtain ⟨rfl, rfl⟩ := e
    have h1 : Value.int u = Value.int (rz_p G 1) := ha
    cases h1
    obtain ⟨x, hx, hx2⟩ := hb
    cases hx
    have e31 : w = 31 := rz_int_eq hx2
    subst e31
    rw [← h9]
    exact rz_vnm hB 9
  | false => exact ⟨_, rfl⟩
theorem rz_vladd {G : rz_G} {a b : rz_V} {u w : Int64} (ha : rz_vr G a (.long u)) (hb : rz_vr G b (.long w)) : rz_vr G (rz_ladd a b) (.long (u + w)) := by
  unfold rz_ladd
  by_cases e1 : a = (2, 0)
  · subst e1
    obtain ⟨x, hx, hx2⟩ := ha
    cases hx
    have e0 : u = 0 := rz_long_eq hx2
    subst e0
    simp only [decide_true, cond_true, Int64.zero_add]
    exact hb
  · simp only [e1, decide_false, cond_false]
    by_cases e2 : b = (2, 0)
    · subst e2
      obtain ⟨x, hx, hx2⟩ := hb
      cases hx
      have e0 : w = 0 := rz_long_eq hx2
      subst e0
      simp only [decide_true, cond_true, Int64.add_zero]
      exact ha
    · simp only [e2, decide_false, cond_false]
      cases e : rz_lk2 a && rz_lk2 b with
      | true =>
        simp only [Bool.and_eq_true] at e
        refine rz_vli fun h => ?_
        have h := rz_r64s h
        have e1 := rz_klong e.1 ha
        have e2 := rz_klong e.2 hb
        rw [Int64.toInt_add, e1, e2]
        exact rz_bm (by omega) (by omega)
      | false => exact ⟨_, rfl⟩
theorem rz_vlsub {G : rz_G} {a b : rz_V} {u w : Int64} (ha : rz_vr G a (.long u)) (hb : rz_vr G b (.long w)) : rz_vr G (rz_lsub a b) (.long (u - w)) := by
  unfold rz_lsub
  cases e : rz_lk2 a && rz_lk2 b with
  | true =>
    simp only [Bool.and_eq_true] at e
    refine rz_vli fun h => ?_
    have h := rz_r64s h
    have e1 := rz_klong e.1 ha
    have e2 := rz_klong e.2 hb
    rw [Int64.toInt_sub, e1, e2]
    exact rz_bm (by omega) (by omega)
  | false => exact ⟨_, rfl⟩
theorem rz_vland {G : rz_G} {a b : rz_V} {u w : Int64} (ha : rz_vr G a (.long u)) (hb : rz_vr G b (.long w)) : rz_vr G (rz_land a b) (.long (u &&& w)) := by
  unfold rz_land
  cases e : decide (a = (2, 0)) || decide (b = (2, 0)) with
  | true =>
    simp only [Bool.or_eq_true, decide_eq_true_eq] at e
    rcases e with rfl | rfl
    · obtain ⟨x, hx, hx2⟩ := ha
      cases hx
      have e0 : u = 0 := rz_long_eq hx2
      subst e0
      exact ⟨_, rfl, by simp⟩
    · obtain ⟨x, hx, hx2⟩ := hb
      cases hx
      have e0 : w = 0 := rz_long_eq hx2
      subst e0
      exact ⟨_, rfl, by simp⟩
  | false => exact ⟨_, rfl⟩
theorem rz_vi2l {G : rz_G} {a : rz_V} {u : Int32} (hi : rz_isI a = true) (ha : rz_vr G a (.int u)) : rz_vr G (rz_i2l a) (.long u.toInt64) := by
  obtain ⟨t, c⟩ := a
  rcases rz_or3 hi with rfl | rfl | rfl
  · obtain ⟨x, hx, hx2⟩ := ha
    cases hx
    exact ⟨_, rfl, by rw [rz_i64]; exact hx2⟩
  · have h1 : Value.int u = Value.int (rz_p G c.toNat) := ha
    cases h1
    rfl
  · exact ⟨_, rfl⟩
theorem rz_vl2i {G : rz_G} {a : rz_V} {u : Int64} (ha : rz_vr G a (.long u)) : rz_vr G (rz_l2i a) (.int u.toInt32) := by
  unfold rz_l2i
  cases e : rz_lk2 a && rz_r32 a.2 with
  | true =>
    simp only [Bool.and_eq_true] at e
    have h := rz_r32s e.2
    have e1 := rz_klong e.1 ha
    refine ⟨_, rfl, ?_⟩
    rw [Int64.toInt_toInt32, e1]
    exact rz_bm (by omega) (by omega)
  | false => exact ⟨_, rfl⟩
theorem rz_vlcmp {G : rz_G} {B : rz_B} (hB : rz_in G B) {a b r : rz_V} {u w : Value} (h : rz_lcmp B a b = some r) (ha : rz_vr G a u) (hb : rz_vr G b w) : ∃ x y : Int64, u = .long x ∧ w = .long y ∧ rz_vr G r (.int (lg_cmp x y)) := by
  unfold rz_lcmp at h
  cases e : Nat.beq a.1 3 && decide (a = b) with
  | true =>
    simp only [e, cond_true, Option.some.injEq] at h
    subst h
    simp only [Bool.and_eq_true, decide_eq_true_eq] at e
    obtain ⟨e3, rfl⟩ := e
    obtain ⟨t, c⟩ := a
    cases Nat.eq_of_beq_eq_true e3
    cases ha
    cases hb
    exact ⟨_, _, rfl, rfl, _, rfl, by simp [lg_cmp]⟩
  | false =>
    simp only [e, cond_false] at h
    cases h1 : rz_ltv B a with
    | none => simp [h1] at h
    | some q1 =>
      cases h2 : rz_ltv B b with
      | none => simp [h1, h2] at h
      | some q2 =>
        obtain ⟨l1, u1⟩ := q1
        obtain ⟨l2, u2⟩ := q2
        obtain ⟨x, rfl, x1, x2⟩ := rz_vltv hB h1 ha
        obtain ⟨y, rfl, y1, y2⟩ := rz_vltv hB h2 hb
        refine ⟨x, y, rfl, rfl, ?_⟩
        simp only [h1, h2] at h
        by_cases c1 : u1 < l2
        · simp only [c1, decide_true, cond_true, Option.some.injEq] at h
          subst h
          have : ¬ y < x := by rw [Int64.lt_iff_toInt_lt]; omega
          have n2 : ¬ x = y := fun q => by rw [q] at x2; omega
          exact ⟨_, rfl, by simp [lg_cmp, this, n2]⟩
        · simp only [c1, decide_false, cond_false] at h
          by_cases c2 : u2 < l1
          · simp only [c2, decide_true, cond_true, Option.some.injEq] at h
            subst h
            have : y < x := by rw [Int64.lt_iff_toInt_lt]; omega
            exact ⟨_, rfl, by simp [lg_cmp, this]⟩
          · simp only [c2, decide_false, cond_false] at h
            cases c3 : decide (l1 = u1) && (decide (l2 = u2) && decide (l1 = l2)) with
            | true =>
              simp only [c3, cond_true, Option.some.injEq] at h
              subst h
              simp only [Bool.and_eq_true, decide_eq_true_eq] at c3
              have : x = y := rz_long_eq (by omega)
              subst this
              exact ⟨_, rfl, by simp [lg_cmp]⟩
            | false => simp [c3] at h
theorem rz_vlt {G : rz_G} {B : rz_B} (hB : rz_in G B) {a b : rz_V} {u w : Value} {r : Bool} (h : rz_lt B a b = some r) (ha : rz_vr G a u) (hb : rz_vr G b w) : ∃ x y : Int32, u = .int x ∧ w = .int y ∧ (r = true ↔ x < y) := by
  unfold rz_lt at h
  cases h1 : rz_itv B a with
  | none => simp [h1] at h
  | some q1 =>
    cases h2 : rz_itv B b with
    | none => simp [h1, h2] at h
    | some q2 =>
      obtain ⟨l1, u1⟩ := q1
      obtain ⟨l2, u2⟩ := q2
      obtain ⟨x, rfl, x1, x2⟩ := rz_vitv hB h1 ha
      obtain ⟨y, rfl, y1, y2⟩ := rz_vitv hB h2 hb
      refine ⟨x, y, rfl, rfl, ?_⟩
      simp only [h1, h2] at h
      rw [Int32.lt_iff_toInt_lt]
      by_cases c1 : u1 < l2
      · simp only [c1, decide_true, cond_true, Option.some.injEq] at h
        subst h
        simp; omega
      · simp only [c1, decide_false, cond_false] at h
        by_cases c2 : u2 ≤ l1
        · simp only [c2, decide_true, cond_true, Option.some.injEq] at h
          subst h
          simp; omega
        · simp [c2] at h
theorem rz_veq {G : rz_G} {B : rz_B} (hB : rz_in G B) {a b : rz_V} {u w : Value} {r : Bool} (h : rz_eq B a b = some r) (ha : rz_vr G a u) (hb : rz_vr G b w) : ∃ x y : Int32, u = .int x ∧ w = .int y ∧ (r = true ↔ x = y) := by
  unfold rz_eq at h
  cases h1 : rz_itv B a with
  | none => simp [h1] at h
  | some q1 =>
    cases h2 : rz_itv B b with
    | none => simp [h1, h2] at h
    | some q2 =>
      obtain ⟨l1, u1⟩ := q1
      obtain ⟨l2, u2⟩ := q2
      obtain ⟨x, rfl, x1, x2⟩ := rz_vitv hB h1 ha
      obtain ⟨y, rfl, y1, y2⟩ := rz_vitv hB h2 hb
      refine ⟨x, y, rfl, rfl, ?_⟩
      simp only [h1, h2] at h
      cases c1 : decide (u1 < l2) || decide (u2 < l1) with
      | true =>
        simp only [c1, cond_true, Option.some.injEq] at h
        subst h
        simp only [Bool.or_eq_true, decide_eq_true_eq] at c1
        simp only [Bool.false_eq_true, false_iff]
        intro q
        subst q
        omega
      | false =>
        simp only [c1, cond_false] at h
        cases c3 : decide (l1 = u1) && (decide (l2 = u2) && decide (l1 = l2)) with
        | true =>
          simp only [c3, cond_true, Option.some.injEq] at h
          subst h
          simp only [Bool.and_eq_true, decide_eq_true_eq] at c3
          simp only [true_iff]
          exact rz_int_eq (by omega)
        | false => simp [c3] at h
theorem rz_nos {r : Option Bool} {b : Bool} (h : rz_no r = some b) : r = some (!b) := by
  cases r with
  | none => cases h
  | some x =>
    simp only [rz_no, Option.some.injEq] at h
    subst h
    simp
theorem rz_cn0 {G0 : rz_G} {x : Int32} : rz_vr G0 (0, 0) (.int x) → x = 0 := by
  intro h
  obtain ⟨y, hy, e⟩ := h
  cases hy
  exact rz_int_eq e
