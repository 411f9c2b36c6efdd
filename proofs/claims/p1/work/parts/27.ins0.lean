/-! instructions -/
def rz_isT : Instr → Bool
  | .tableswitch _ _ _ _ => true
  | _ => false
def rz_okI (m pc : Nat) (q : rz_I) : Bool := (match decode (rz_by m) pc with
    | .ok (i2, n) => decide (i2 = q.1) && (Nat.beq n (rz_len q.1) || rz_isT q.1)
    | .error _ => false) &&
  (match q.1 with
    | .ldc x => rz_kp.any (fun t => Nat.beq t.1 (rz_mo m) && (Nat.beq t.2.1 x && decide (t.2.2.1 = q.2.2)))
    | .ldc_w x => rz_kp.any (fun t => Nat.beq t.1 (rz_mo m) && (Nat.beq t.2.1 x && decide (t.2.2.1 = q.2.2)))
    | .ldc2_w x => rz_lp.any (fun t => Nat.beq t.1 (rz_mo m) && (Nat.beq t.2.1 x && decide (t.2.2.1 = q.2.2)))
    | .getfield x => Nat.blt q.2.1 12 && rz_fp.any (fun t => Nat.beq t.1 (rz_mo m) && (Nat.beq t.2.1 x && (Nat.beq t.2.2.1 q.2.1 && Nat.beq t.2.2.2.1 q.2.2.toNat)))
    | .putfield x => Nat.blt q.2.1 12 && (rz_fp.any (fun t => Nat.beq t.1 (rz_mo m) && (Nat.beq t.2.1 x && (Nat.beq t.2.2.1 q.2.1 && Nat.beq t.2.2.2.1 q.2.2.toNat))) && (!(rz_T q.2.1 q.2.2.toNat).2.2.2 || (decide ((rz_y m).name = "<init>") && Nat.beq (rz_mo m) q.2.1)))
    | .new x => Nat.blt q.2.1 12 && rz_cp.any (fun t => Nat.beq t.1 (rz_mo m) && (Nat.beq t.2.1 x && Nat.beq t.2.2.1 q.2.1))
    | .anewarray x => Nat.blt q.2.1 12 && (rz_isR (q.2.1 + 4) && rz_cp.any (fun t => Nat.beq t.1 (rz_mo m) && (Nat.beq t.2.1 x && Nat.beq t.2.2.1 q.2.1)))
    | .newarray t => decide (t = .int) || (decide (t = .long) || decide (t = .boolean))
    | .invokespecial x => bif decide (q.2.2 = 1) then rz_op.any (fun t => Nat.beq t.1 (rz_mo m) && Nat.beq t.2.1 x) else Nat.blt 0 q.2.1 && (Nat.blt q.2.1 108 && (decide (rz_nth rz_kd q.2.1 = some 1) && rz_mp.any (fun t => Nat.beq t.1 (rz_mo m) && (Nat.beq t.2.1 x && Nat.beq t.2.2.1 q.2.1))))
    | .invokevirtual x => Nat.blt 0 q.2.1 && (Nat.blt q.2.1 108 && (decide (rz_nth rz_kd q.2.1 = some 2) && rz_mp.any (fun t => Nat.beq t.1 (rz_mo m) && (Nat.beq t.2.1 x && (Nat.beq t.2.2.1 q.2.1 && Nat.beq t.2.2.2.2 0)))))
    | .invokestatic x => Nat.blt 0 q.2.1 && (Nat.blt q.2.1 108 && (decide (rz_nth rz_kd q.2.1 = some 0) && rz_mp.any (fun t => Nat.beq t.1 (rz_mo m) && (Nat.beq t.2.1 x && (Nat.beq t.2.2.1 q.2.1 && Nat.beq t.2.2.2.2 0)))))
    | .ireturn => (decide (rz_ret m = some .int) && !rz_rb m) || (decide (rz_ret m = some .boolean) && rz_rb m)
    | .lreturn => decide (rz_ret m = some .long)
    | .areturn => match rz_ret m with
      | some (.object _) => true
      | _ => false
    | .return_ => decide (rz_ret m = none)
    | _ => true)
def rz_rng (m lo n : Nat) : Bool := (List.range n).all fun j => match rz_code m (lo + j) with
  | some q => rz_okI m (lo + j) q
  | none => true
theorem rz_rngS {m lo n pc : Nat} {q : rz_I} (h : rz_rng m lo n = true) (h1 : lo ≤ pc) (h2 : pc < lo + n) (hq : rz_code m pc = some q) : rz_okI m pc q = true := by
  have := List.all_eq_true.mp h (pc - lo) (List.mem_range.mpr (by omega))
  rw [show lo + (pc - lo) = pc by omega] at this
  simp only [hq] at this
  exact this
theorem rz_iAI : Cond.arrayClass .int ∈ rz_TS := rz_inTS (i := 123) (by decide +kernel) rfl
theorem rz_iAL : Cond.arrayClass .long ∈ rz_TS := rz_inTS (i := 124) (by decide +kernel) rfl
theorem rz_iAZ : Cond.arrayClass .boolean ∈ rz_TS := rz_inTS (i := 1230) (by decide +kernel) rfl
theorem rz_iAO : ∀ k, rz_ak k = true → 3 < k → Cond.arrayOver (.object (rz_cn (k - 4))) ∈ rz_TS := by
  intro k hk h3
  simp only [rz_ak, Bool.or_eq_true] at hk
  rcases hk with h | h | h | h | h | h | h | h | h <;> have e := Nat.eq_of_beq_eq_true h <;> subst e
  · omega
  · omega
  · omega
  · exact rz_inTS (i := 97) (by decide +kernel) rfl
  · exact rz_inTS (i := 99) (by decide +kernel) rfl
  · exact rz_inTS (i := 165) (by decide +kernel) rfl
  · exact rz_inTS (i := 167) (by decide +kernel) rfl
  · exact rz_inTS (i := 169) (by decide +kernel) rfl
  · exact rz_inTS (i := 171) (by decide +kernel) rfl
theorem rz_hcast : Cond.castable rz_iae rz_iae ∈ rz_TS := rz_inTS (i := 417) (by decide +kernel) rfl
theorem rz_h13 : Cond.classLink (rz_cn 12) 13 rz_iae ∈ rz_TS := rz_inTS (i := 406) (by decide +kernel) rfl
theorem rz_hoi : Cond.instanceMethod Lib.objectInit ∈ rz_TS := rz_inTS (i := 88) (by decide +kernel) rfl
theorem rz_hoc : Cond.code Lib.objectInit ⟨#[0xb1]⟩ 1 none ∈ rz_TS := rz_inTS (i := 89) (by decide +kernel) rfl
theorem rz_hhB : (List.range 108).all (fun m => decide (rz_hh m = []) || Nat.beq (rz_mo m) 12) = true := by decide +kernel
theorem rz_hhS {m : Nat} (hm : m < 108) : rz_hh m = [] ∨ Cond.classLink (rz_cn (rz_mo m)) 13 rz_iae ∈ rz_TS := by
  have h := List.all_eq_true.mp rz_hhB m (List.mem_range.mpr hm)
  simp only [Bool.or_eq_true, decide_eq_true_eq] at h
  rcases h with h | h
  · exact Or.inl h
  · rw [Nat.eq_of_beq_eq_true h]; exact Or.inr rz_h13
theorem rz_b4 {a b c d a' b' c' d' : Nat} (h : (Nat.beq a a' && (Nat.beq b b' && (Nat.beq c c' && Nat.beq d d'))) = true) : a = a' ∧ b = b' ∧ c = c' ∧ d = d' := by
  simp only [Bool.and_eq_true] at h
  exact ⟨Nat.eq_of_beq_eq_true h.1, Nat.eq_of_beq_eq_true h.2.1, Nat.eq_of_beq_eq_true h.2.2.1, Nat.eq_of_beq_eq_true h.2.2.2⟩
theorem rz_b3 {a b c a' b' c' : Nat} (h : (Nat.beq a a' && (Nat.beq b b' && Nat.beq c c')) = true) : a = a' ∧ b = b' ∧ c = c' := by
  simp only [Bool.and_eq_true] at h
  exact ⟨Nat.eq_of_beq_eq_true h.1, Nat.eq_of_beq_eq_true h.2.1, Nat.eq_of_beq_eq_true h.2.2⟩
theorem rz_fpa {m x a k : Nat} (h : rz_fp.any (fun t => Nat.beq t.1 (rz_mo m) && (Nat.beq t.2.1 x && (Nat.beq t.2.2.1 a && Nat.beq t.2.2.2.1 k))) = true) : rz_flOK (rz_mo m) x a k := by
  obtain ⟨⟨o, x', a', k', w⟩, h1, h2⟩ := List.any_eq_true.mp h
  obtain ⟨e1, e2, e3, e4⟩ := rz_b4 h2
  have h3 := rz_fp2 h1
  dsimp only at e1 e2 e3 e4
  rw [e1, e2, e3, e4] at h3
  exact h3
theorem rz_cpa {m x a : Nat} (h : rz_cp.any (fun t => Nat.beq t.1 (rz_mo m) && (Nat.beq t.2.1 x && Nat.beq t.2.2.1 a)) = true) : Cond.classLink (rz_cn (rz_mo m)) x (rz_cn a) ∈ rz_TS := by
  obtain ⟨⟨o, x', a', w⟩, h1, h2⟩ := List.any_eq_true.mp h
  obtain ⟨e1, e2, e3⟩ := rz_b3 h2
  have h3 := rz_cp2 h1
  dsimp only at e1 e2 e3
  rw [e1, e2, e3] at h3
  exact h3
theorem rz_kpa {m x : Nat} {b : Int} (h : rz_kp.any (fun t => Nat.beq t.1 (rz_mo m) && (Nat.beq t.2.1 x && decide (t.2.2.1 = b))) = true) : Cond.constant (rz_cn (rz_mo m)) x (Int32.ofInt b) ∈ rz_TS ∧ rz_r32 b = true := by
  obtain ⟨⟨o, x', b', w⟩, h1, h2⟩ := List.any_eq_true.mp h
  simp only [Bool.and_eq_true, decide_eq_true_eq] at h2
  have h3 := rz_kp2 h1
  rw [Nat.eq_of_beq_eq_true h2.1, Nat.eq_of_beq_eq_true h2.2.1, h2.2.2] at h3
  exact h3
theorem rz_lpa {m x : Nat} {b : Int} (h : rz_lp.any (fun t => Nat.beq t.1 (rz_mo m) && (Nat.beq t.2.1 x && decide (t.2.2.1 = b))) = true) : Cond.constantLong (rz_cn (rz_mo m)) x (Int64.ofInt b) ∈ rz_TS ∧ rz_r64 b = true := by
  obtain ⟨⟨o, x', b', w⟩, h1, h2⟩ := List.any_eq_true.mp h
  simp only [Bool.and_eq_true, decide_eq_true_eq] at h2
  have h3 := rz_lp2 h1
  rw [Nat.eq_of_beq_eq_true h2.1, Nat.eq_of_beq_eq_true h2.2.1, h2.2.2] at h3
  exact h3
theorem rz_mpa {m x a : Nat} (h : rz_mp.any (fun t => Nat.beq t.1 (rz_mo m) && (Nat.beq t.2.1 x && (Nat.beq t.2.2.1 a && Nat.beq t.2.2.2.2 0))) = true) : Cond.methodLink (rz_cn (rz_mo m)) x (rz_y a) ∈ rz_TS := by
  obtain ⟨⟨o, x', a', w, n⟩, h1, h2⟩ := List.any_eq_true.mp h
  obtain ⟨e1, e2, e3, e4⟩ := rz_b4 h2
  have h3 := rz_mp2 h1
  dsimp only at e1 e2 e3 e4
  rcases h3 with ⟨-, h3⟩ | ⟨h3, -⟩
  · rw [e1, e2, e3] at h3; exact h3
  · exact absurd e4 h3
theorem rz_mpb {m x a : Nat} (h : rz_mp.any (fun t => Nat.beq t.1 (rz_mo m) && (Nat.beq t.2.1 x && Nat.beq t.2.2.1 a)) = true) : Cond.methodLink (rz_cn (rz_mo m)) x (rz_y a) ∈ rz_TS ∨ ∃ host, Cond.methodLinkNest (rz_cn (rz_mo m)) x (rz_y a) host ∈ rz_TS := by
  obtain ⟨⟨o, x', a', w, n⟩, h1, h2⟩ := List.any_eq_true.mp h
  obtain ⟨e1, e2, e3⟩ := rz_b3 h2
  have h3 := rz_mp2 h1
  dsimp only at e1 e2 e3
  rw [e1, e2, e3] at h3
  rcases h3 with ⟨-, h3⟩ | ⟨-, h3⟩
  · exact Or.inl h3
  · exact Or.inr ⟨_, h3⟩
theorem rz_okS {m pc : Nat} {ins : Instr} {a : Nat} {b : Int} (hm : m < 108) (h : rz_okI m pc (ins, a, b) = true) : rz_sOK m pc ins a b := by
  unfold rz_okI at h
  rw [Bool.and_eq_true] at h
  obtain ⟨h1, h2⟩ := h
  refine ⟨?_, rz_hhS hm, ?_⟩
  · cases hd : decode (rz_by m) pc with
    | error x => simp [hd] at h1
    | ok q =>
      obtain ⟨i2, n⟩ := q
      simp only [hd, Bool.and_eq_true, decide_eq_true_eq, Bool.or_eq_true] at h1
      obtain ⟨rfl, h1⟩ := h1
      refine ⟨n, rfl, ?_⟩
      rcases h1 with h1 | h1
      · exact Or.inl (Nat.eq_of_beq_eq_true h1)
      · right
        cases i2 with
        | tableswitch d lo hi offs => exact ⟨d, lo, hi, offs, rfl⟩
        | _ => cases h1
  · cases ins with
    | ldc x => exact rz_kpa h2
    | ldc_w x => exact rz_kpa h2
    | ldc2_w x => exact rz_lpa h2
    | getfield x =>
      dsimp only at h2 ⊢
      rw [Bool.and_eq_true] at h2
      exact ⟨rz_clAll a (Nat.blt_eq.mp h2.1), rz_fpa h2.2⟩
    | putfield x =>
      dsimp only at h2 ⊢
      rw [Bool.and_eq_true, Bool.and_eq_true] at h2
      refine ⟨rz_clAll a (Nat.blt_eq.mp h2.1), rz_fpa h2.2.1, fun hf => ?_⟩
      have h3 := h2.2.2
      rw [hf] at h3
      simp only [Bool.not_true, Bool.false_or, Bool.and_eq_true, decide_eq_true_eq] at h3
      exact ⟨h3.1, by rw [Nat.eq_of_beq_eq_true h3.2]⟩
    | new x =>
      dsimp only at h2 ⊢
      rw [Bool.and_eq_true] at h2
      exact ⟨rz_clAll a (Nat.blt_eq.mp h2.1), rz_tyAll a (Nat.blt_eq.mp h2.1), rz_cpa h2.2⟩
    | anewarray x =>
      dsimp only at h2 ⊢
      rw [Bool.and_eq_true, Bool.and_eq_true] at h2
      have h3 := rz_isRs h2.2.1
      refine ⟨Nat.blt_eq.mp h2.1, h3.2.2, rz_cpa h2.2.2, ?_⟩
      have h4 := rz_iAO (a + 4) h3.2.2 (by omega)
      rwa [show a + 4 - 4 = a by omega] at h4
    | newarray t =>
      dsimp only at h2 ⊢
      simp only [Bool.or_eq_true, decide_eq_true_eq] at h2
      rcases h2 with rfl | rfl | rfl
      · exact rz_iAI
      · exact rz_iAL
      · exact rz_iAZ
    | invokespecial x =>
      dsimp only at h2 ⊢
      by_cases hb : b = 1
      · left
        simp only [hb, decide_true, cond_true] at h2
        obtain ⟨⟨o, x', w⟩, g1, g2⟩ := List.any_eq_true.mp h2
        simp only [Bool.and_eq_true] at g2
        have g3 := rz_op2 g1
        rw [Nat.eq_of_beq_eq_true g2.1, Nat.eq_of_beq_eq_true g2.2] at g3
        exact ⟨hb, g3, rz_hoi, rz_hoc⟩
      · right
        simp only [hb, decide_false, cond_false] at h2
        rw [Bool.and_eq_true, Bool.and_eq_true, Bool.and_eq_true] at h2
        obtain ⟨g1, g2, g3, g4⟩ := h2
        obtain ⟨f1, kd, f2, f3⟩ := rz_mF (Nat.blt_eq.mp g1) (Nat.blt_eq.mp g2)
        have ek : kd = 1 := Option.some.inj (f2.symm.trans (of_decide_eq_true g3))
        subst ek
        rcases f3 with ⟨f3, -⟩ | ⟨-, f4, f5, f6⟩
        · cases f3
        · rcases f6 with ⟨-, f7, f8, f9, f10⟩ | ⟨f6, -⟩
          · exact ⟨hb, f1, f7, f8, f9, f10, rz_mpb g4, f4, f5⟩
          · exact absurd rfl f6
    | invokevirtual x =>
      dsimp only at h2 ⊢
      rw [Bool.and_eq_true, Bool.and_eq_true, Bool.and_eq_true] at h2
      obtain ⟨g1, g2, g3, g4⟩ := h2
      obtain ⟨f1, kd, f2, f3⟩ := rz_mF (Nat.blt_eq.mp g1) (Nat.blt_eq.mp g2)
      have ek : kd = 2 := Option.some.inj (f2.symm.trans (of_decide_eq_true g3))
      subst ek
      rcases f3 with ⟨f3, -⟩ | ⟨-, f4, f5, f6⟩
      · cases f3
      · rcases f6 with ⟨f6, -⟩ | ⟨-, f7, f8⟩
        · cases f6
        · exact ⟨f1, rz_clAll _ f7, rz_mpa g4, f4, f8, f5⟩
    | invokestatic x =>
      dsimp only at h2 ⊢
      rw [Bool.and_eq_true, Bool.and_eq_true, Bool.and_eq_true] at h2
      obtain ⟨g1, g2, g3, g4⟩ := h2
      obtain ⟨f1, kd, f2, f3⟩ := rz_mF (Nat.blt_eq.mp g1) (Nat.blt_eq.mp g2)
      have ek : kd = 0 := Option.some.inj (f2.symm.trans (of_decide_eq_true g3))
      subst ek
      rcases f3 with ⟨-, f4, f5⟩ | ⟨f3, -⟩
      · exact ⟨f1, rz_mpa g4, f4, f5⟩
      · exact absurd rfl f3
    | ireturn =>
      dsimp only at h2 ⊢
      simp only [Bool.or_eq_true, Bool.and_eq_true, decide_eq_true_eq, Bool.not_eq_true'] at h2
      exact h2
    | lreturn => exact of_decide_eq_true h2
    | areturn =>
      dsimp only at h2 ⊢
      cases hr : rz_ret m with
      | none => simp [hr] at h2
      | some ty =>
        cases ty with
        | object n => exact ⟨n, rfl⟩
        | _ => simp [hr] at h2
    | return_ => exact of_decide_eq_true h2
    | _ => exact trivial
