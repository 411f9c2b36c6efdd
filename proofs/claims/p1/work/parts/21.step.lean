/-! One step of the small machine is one of the real one. -/
theorem rz_bif {α : Type} {b : Bool} {x : Option α} {r : α} (h : (bif b then x else none) = some r) : b = true ∧ x = some r := by
  cases b with
  | true => exact ⟨rfl, h⟩
  | false => cases h
def rz_len : Instr → Nat
  | .bipush _ | .aload _ | .iload _ | .lload _ | .istore _ | .astore _ | .lstore _ | .ldc _ | .newarray _ => 2
  | .sipush _ | .ldc_w _ | .ldc2_w _ | .iinc _ _ | .goto _ | .ifCond _ _ | .if_icmp _ _ | .ifnull _ | .ifnonnull _ | .getfield _ | .putfield _ | .new _ | .anewarray _ | .invokespecial _ | .invokevirtual _ | .invokestatic _ => 3
  | _ => 1
/-- what the tables know of the instruction at pc of the method i -/
def rz_sOK (i pc : Nat) (ins : Instr) (a : Nat) (b : Int) : Prop := (∃ n, decode (rz_by i) pc = .ok (ins, n) ∧ (n = rz_len ins ∨ ∃ d lo hi offs, ins = .tableswitch d lo hi offs)) ∧ (rz_hh i = [] ∨ Cond.classLink (rz_cn (rz_mo i)) 13 rz_iae ∈ rz_TS) ∧ match ins with
  | .ldc x => Cond.constant (rz_cn (rz_mo i)) x (Int32.ofInt b) ∈ rz_TS ∧ rz_r32 b = true
  | .ldc_w x => Cond.constant (rz_cn (rz_mo i)) x (Int32.ofInt b) ∈ rz_TS ∧ rz_r32 b = true
  | .ldc2_w x => Cond.constantLong (rz_cn (rz_mo i)) x (Int64.ofInt b) ∈ rz_TS ∧ rz_r64 b = true
  | .getfield x => rz_clOK a ∧ rz_flOK (rz_mo i) x a b.toNat
  | .putfield x => rz_clOK a ∧ rz_flOK (rz_mo i) x a b.toNat ∧ ((rz_T a b.toNat).2.2.2 = true → (rz_y i).name = "<init>" ∧ rz_cn (rz_mo i) = rz_cn a)
  | .new x => rz_clOK a ∧ (∀ k, k < rz_N a → rz_ty a k = .int ∨ rz_ty a k = .long ∨ rz_ty a k = .boolean ∨ (∃ n, rz_ty a k = .object n) ∨ ∃ n, rz_ty a k = .array n) ∧ Cond.classLink (rz_cn (rz_mo i)) x (rz_cn a) ∈ rz_TS
  | .anewarray x => a < 12 ∧ rz_ak (a + 4) = true ∧ Cond.classLink (rz_cn (rz_mo i)) x (rz_cn a) ∈ rz_TS ∧ Cond.arrayOver (.object (rz_cn a)) ∈ rz_TS
  | .newarray t => Cond.arrayClass (newarray.typeOf t) ∈ rz_TS
  | .invokespecial x => (b = 1 ∧ Cond.methodLink (rz_cn (rz_mo i)) x Lib.objectInit ∈ rz_TS ∧ Cond.instanceMethod Lib.objectInit ∈ rz_TS ∧ Cond.code Lib.objectInit ⟨#[0xb1]⟩ 1 none ∈ rz_TS) ∨
      (b ≠ 1 ∧ rz_mOK a ∧ (rz_y a).name = "<init>" ∧ rz_ret a = none ∧ rz_hh a = [] ∧ Cond.code (rz_y a) (rz_by a) (rz_nL a) (rz_ret a) ∈ rz_TS ∧ (Cond.methodLink (rz_cn (rz_mo i)) x (rz_y a) ∈ rz_TS ∨ ∃ host, Cond.methodLinkNest (rz_cn (rz_mo i)) x (rz_y a) host ∈ rz_TS) ∧ Cond.instanceMethod (rz_y a) ∈ rz_TS ∧ ∀ sig, parseMethodDescriptor (rz_y a).desc = some sig → sig.parameters.length + 1 = rz_np a)
  | .invokevirtual x => rz_mOK a ∧ rz_clOK (rz_mo a) ∧ Cond.methodLink (rz_cn (rz_mo i)) x (rz_y a) ∈ rz_TS ∧ Cond.instanceMethod (rz_y a) ∈ rz_TS ∧ Cond.selects (rz_cn (rz_mo a)) (rz_y a) (rz_y a) ∈ rz_TS ∧ ∀ sig, parseMethodDescriptor (rz_y a).desc = some sig → sig.parameters.length + 1 = rz_np a
  | .invokestatic x => rz_mOK a ∧ Cond.methodLink (rz_cn (rz_mo i)) x (rz_y a) ∈ rz_TS ∧ Cond.static (rz_y a) ∈ rz_TS ∧ ∀ sig, parseMethodDescriptor (rz_y a).desc = some sig → sig.parameters.length = rz_np a
  | .ireturn => (rz_ret i = some .int ∧ rz_rb i = false) ∨ (rz_ret i = some .boolean ∧ rz_rb i = true)
  | .lreturn => rz_ret i = some .long
  | .areturn => ∃ n, rz_ret i = some (.object n)
  | .return_ => rz_ret i = none
  | _ => True
section
variable {G : rz_G} {B : rz_B} {i nL : Nat} {p : Program} {l : Launch} {e : Env} {R : Room} {s : State} {m : MethodId} {args : Array Value} {below : List Frame} {meth : Method} {c : Code}
variable {pc : Nat} {L : List (Nat × rz_V)} {S : List rz_V} {h : List rz_E} {k z K Z d : Nat}
theorem rz_dk {ins : Instr} {n : Nat} (hd : decode (rz_by i) pc = .ok (ins, n)) (hn : n = rz_len ins ∨ ∃ d lo hi offs, ins = .tableswitch d lo hi offs) (ht : ∀ d lo hi offs, ins ≠ .tableswitch d lo hi offs) : decode (rz_by i) pc = .ok (ins, rz_len ins) := by
  rcases hn with rfl | ⟨d, lo, hi, offs, h⟩
  · exact hd
  · exact absurd h (ht d lo hi offs)
set_option maxHeartbeats 4000000 in
theorem rz_stepA (C : rz_C G B i p l s m args meth c) (hnl : nL = rz_nL i) {call : Nat → List rz_V → List rz_E → Nat → Nat → Option rz_R} (ok : rz_cOK G l d call) (hfr : d + 9 ≤ R.frames) (hlo : 64 * d + 192 ≤ R.locals) (hRc : R.cells = K) (hRs : R.slots = Z) (hcl : ∀ a, a < 12 → rz_clOK a) (hca : Cond.castable rz_iae rz_iae ∈ rz_TS) {ins : Instr} {a : Nat} {b : Int} (hS : rz_sOK i pc ins a b) {r : rz_F ⊕ rz_R}
    (hh : rz_step call rz_np rz_mo rz_N rz_df rz_ty (rz_hh i) (rz_rb i) B K Z nL (ins, a, b) pc L S h k z = some r) : rz_Ok G nL p l e R s m args below meth c pc L S h k z r := by
  obtain ⟨⟨n, hd, hn⟩, hcc, hS⟩ := hS
  unfold rz_step at hh
  cases ins with
  | iconst v =>
    have hd := rz_dk hd hn (fun _ _ _ _ q => by cases q)
    dsimp only at hh
    obtain ⟨h1, hh⟩ := rz_bif hh
    cases hh
    exact fun Q kk => rz_o_iconst C hd h1 kk
  | bipush v =>
    have hd := rz_dk hd hn (fun _ _ _ _ q => by cases q)
    dsimp only at hh
    obtain ⟨h1, hh⟩ := rz_bif hh
    cases hh
    simp only [Bool.and_eq_true, decide_eq_true_eq] at h1
    exact fun Q kk => rz_o_bipush C hd h1.1 h1.2 kk
  | sipush v =>
    have hd := rz_dk hd hn (fun _ _ _ _ q => by cases q)
    dsimp only at hh
    obtain ⟨h1, hh⟩ := rz_bif hh
    cases hh
    simp only [Bool.and_eq_true, decide_eq_true_eq] at h1
    exact fun Q kk => rz_o_sipush C hd h1.1 h1.2 kk
  | lconst v =>
    have hd := rz_dk hd hn (fun _ _ _ _ q => by cases q)
    cases hh
    exact fun Q kk => rz_o_lconst C hd kk
  | aconst_null =>
    have hd := rz_dk hd hn (fun _ _ _ _ q => by cases q)
    cases hh
    exact fun Q kk => rz_o_null C hd kk
  | ldc v =>
    have hd := rz_dk hd hn (fun _ _ _ _ q => by cases q)
    cases hh
    exact fun Q kk => rz_o_ldc C hd hS.1 hS.2 kk
  | ldc_w v =>
    have hd := rz_dk hd hn (fun _ _ _ _ q => by cases q)
    cases hh
    exact fun Q kk => rz_o_ldcw C hd hS.1 hS.2 kk
  | ldc2_w v =>
    have hd := rz_dk hd hn (fun _ _ _ _ q => by cases q)
    cases hh
    exact fun Q kk => rz_o_ldc2 C hd hS.1 hS.2 kk
  | iload_n j =>
    have hd := rz_dk hd hn (fun _ _ _ _ q => by cases q)
    dsimp only at hh
    cases hv : rz_lk L j.val with
    | none => simp [hv] at hh
    | some v =>
      simp only [hv] at hh
      obtain ⟨h1, hh⟩ := rz_bif hh
      cases hh
      exact fun Q kk => rz_o_iload_n C hd hv h1 kk
  | iload j =>
    have hd := rz_dk hd hn (fun _ _ _ _ q => by cases q)
    dsimp only at hh
    cases hv : rz_lk L j with
    | none => simp [hv] at hh
    | some v =>
      simp only [hv] at hh
      obtain ⟨h1, hh⟩ := rz_bif hh
      cases hh
      exact fun Q kk => rz_o_iload C hd hv h1 kk
  | lload_n j =>
    have hd := rz_dk hd hn (fun _ _ _ _ q => by cases q)
    dsimp only at hh
    cases hv : rz_lk L j.val with
    | none => simp [hv] at hh
    | some v =>
      simp only [hv] at hh
      obtain ⟨h1, hh⟩ := rz_bif hh
      cases hh
      exact fun Q kk => rz_o_lload_n C hd hv h1 kk
  | lload j =>
    have hd := rz_dk hd hn (fun _ _ _ _ q => by cases q)
    dsimp only at hh
    cases hv : rz_lk L j with
    | none => simp [hv] at hh
    | some v =>
      simp only [hv] at hh
      obtain ⟨h1, hh⟩ := rz_bif hh
      cases hh
      exact fun Q kk => rz_o_lload C hd hv h1 kk
  | aload_n j =>
    have hd := rz_dk hd hn (fun _ _ _ _ q => by cases q)
    dsimp only at hh
    cases hv : rz_lk L j.val with
    | none => simp [hv] at hh
    | some v =>
      simp only [hv] at hh
      obtain ⟨h1, hh⟩ := rz_bif hh
      cases hh
      exact fun Q kk => rz_o_aload_n C hd hv h1 kk
  | aload j =>
    have hd := rz_dk hd hn (fun _ _ _ _ q => by cases q)
    dsimp only at hh
    cases hv : rz_lk L j with
    | none => simp [hv] at hh
    | some v =>
      simp only [hv] at hh
      obtain ⟨h1, hh⟩ := rz_bif hh
      cases hh
      exact fun Q kk => rz_o_aload C hd hv h1 kk
  | istore_n j =>
    have hd := rz_dk hd hn (fun _ _ _ _ q => by cases q)
    dsimp only at hh
    cases S with
    | nil => cases hh
    | cons v S =>
      obtain ⟨h1, hh⟩ := rz_bif hh
      cases hh
      simp only [Bool.and_eq_true] at h1
      exact fun Q kk => rz_o_istore_n C hd h1.1 h1.2 kk
  | istore j =>
    have hd := rz_dk hd hn (fun _ _ _ _ q => by cases q)
    dsimp only at hh
    cases S with
    | nil => cases hh
    | cons v S =>
      obtain ⟨h1, hh⟩ := rz_bif hh
      cases hh
      simp only [Bool.and_eq_true] at h1
      exact fun Q kk => rz_o_istore C hd h1.1 h1.2 kk
  | astore_n j =>
    have hd := rz_dk hd hn (fun _ _ _ _ q => by cases q)
    dsimp only at hh
    cases S with
    | nil => cases hh
    | cons v S =>
      obtain ⟨h1, hh⟩ := rz_bif hh
      cases hh
      simp only [Bool.and_eq_true] at h1
      exact fun Q kk => rz_o_astore_n C hd h1.1 h1.2 kk
  | astore j =>
    have hd := rz_dk hd hn (fun _ _ _ _ q => by cases q)
    dsimp only at hh
    cases S with
    | nil => cases hh
    | cons v S =>
      obtain ⟨h1, hh⟩ := rz_bif hh
      cases hh
      simp only [Bool.and_eq_true] at h1
      exact fun Q kk => rz_o_astore C hd h1.1 h1.2 kk
  | lstore j =>
    have hd := rz_dk hd hn (fun _ _ _ _ q => by cases q)
    dsimp only at hh
    cases S with
    | nil => cases hh
    | cons v S =>
      obtain ⟨h1, hh⟩ := rz_bif hh
      cases hh
      simp only [Bool.and_eq_true] at h1
      exact fun Q kk => rz_o_lstore C hd h1.1 h1.2 kk
  | iinc j n =>
    have hd := rz_dk hd hn (fun _ _ _ _ q => by cases q)
    dsimp only at hh
    cases hv : rz_lk L j with
    | none => simp [hv] at hh
    | some v =>
      simp only [hv] at hh
      obtain ⟨h1, hh⟩ := rz_bif hh
      cases hh
      simp only [Bool.and_eq_true] at h1
      exact fun Q kk => rz_o_iinc C hd hv h1.1 h1.2.1 h1.2.2.1 h1.2.2.2 kk
  | dup =>
    have hd := rz_dk hd hn (fun _ _ _ _ q => by cases q)
    dsimp only at hh
    match S, hh with
    | [], hh => cases hh
    | v :: S, hh =>
      obtain ⟨h1, hh⟩ := rz_bif hh
      cases hh
      exact fun Q kk => rz_o_dup C hd h1 kk
  | dup_x1 =>
    have hd := rz_dk hd hn (fun _ _ _ _ q => by cases q)
    dsimp only at hh
    match S, hh with
    | [], hh => cases hh
    | [_], hh => cases hh
    | v :: w :: S, hh =>
      obtain ⟨h1, hh⟩ := rz_bif hh
      cases hh
      simp only [Bool.and_eq_true] at h1
      exact fun Q kk => rz_o_dup_x1 C hd h1.1 h1.2 kk
  | dup_x2 =>
    have hd := rz_dk hd hn (fun _ _ _ _ q => by cases q)
    dsimp only at hh
    match S, hh with
    | [], hh => cases hh
    | [_], hh => cases hh
    | [_, _], hh => cases hh
    | v :: w :: u :: S, hh =>
      obtain ⟨h1, hh⟩ := rz_bif hh
      cases hh
      simp only [Bool.and_eq_true] at h1
      exact fun Q kk => rz_o_dup_x2 C hd h1.1 h1.2.1 h1.2.2 kk
  | dup2 =>
    have hd := rz_dk hd hn (fun _ _ _ _ q => by cases q)
    dsimp only at hh
    match S, hh with
    | [], hh => cases hh
    | v :: S, hh =>
      dsimp only at hh
      cases h0 : Nat.beq (rz_cat v) 2 with
      | true =>
        simp only [h0, cond_true] at hh
        cases hh
        exact fun Q kk => rz_o_dup2 C hd h0 kk
      | false =>
        simp only [h0, cond_false] at hh
        match S, hh with
        | [], hh => cases hh
        | w :: S, hh =>
          obtain ⟨h1, hh⟩ := rz_bif hh
          cases hh
          simp only [Bool.and_eq_true] at h1
          exact fun Q kk => rz_o_dup2_11 C hd h1.1 h1.2 kk
  | iadd =>
    have hd := rz_dk hd hn (fun _ _ _ _ q => by cases q)
    dsimp only at hh
    match S, hh with
    | [], hh => cases hh
    | [_], hh => cases hh
    | y :: x :: S, hh =>
      obtain ⟨h1, hh⟩ := rz_bif hh
      cases hh
      simp only [Bool.and_eq_true] at h1
      exact fun Q kk => rz_o_iadd C hd h1.1 h1.2 kk
  | isub =>
    have hd := rz_dk hd hn (fun _ _ _ _ q => by cases q)
    dsimp only at hh
    match S, hh with
    | [], hh => cases hh
    | [_], hh => cases hh
    | y :: x :: S, hh =>
      obtain ⟨h1, hh⟩ := rz_bif hh
      cases hh
      simp only [Bool.and_eq_true] at h1
      exact fun Q kk => rz_o_isub C hd h1.1 h1.2 kk
  | imul =>
    have hd := rz_dk hd hn (fun _ _ _ _ q => by cases q)
    dsimp only at hh
    match S, hh with
    | [], hh => cases hh
    | [_], hh => cases hh
    | y :: x :: S, hh =>
      obtain ⟨h1, hh⟩ := rz_bif hh
      cases hh
      simp only [Bool.and_eq_true] at h1
      exact fun Q kk => rz_o_imul C hd h1.1 h1.2 kk
  | iand =>
    have hd := rz_dk hd hn (fun _ _ _ _ q => by cases q)
    dsimp only at hh
    match S, hh with
    | [], hh => cases hh
    | [_], hh => cases hh
    | y :: x :: S, hh =>
      obtain ⟨h1, hh⟩ := rz_bif hh
      cases hh
      simp only [Bool.and_eq_true] at h1
      exact fun Q kk => rz_o_iand C hd h1.1 h1.2 kk
  | ladd =>
    have hd := rz_dk hd hn (fun _ _ _ _ q => by cases q)
    dsimp only at hh
    match S, hh with
    | [], hh => cases hh
    | [_], hh => cases hh
    | y :: x :: S, hh =>
      obtain ⟨h1, hh⟩ := rz_bif hh
      cases hh
      simp only [Bool.and_eq_true] at h1
      exact fun Q kk => rz_o_ladd C hd h1.1 h1.2 kk
  | lsub =>
    have hd := rz_dk hd hn (fun _ _ _ _ q => by cases q)
    dsimp only at hh
    match S, hh with
    | [], hh => cases hh
    | [_], hh => cases hh
    | y :: x :: S, hh =>
      obtain ⟨h1, hh⟩ := rz_bif hh
      cases hh
      simp only [Bool.and_eq_true] at h1
      exact fun Q kk => rz_o_lsub C hd h1.1 h1.2 kk
  | land =>
    have hd := rz_dk hd hn (fun _ _ _ _ q => by cases q)
    dsimp only at hh
    match S, hh with
    | [], hh => cases hh
    | [_], hh => cases hh
    | y :: x :: S, hh =>
      obtain ⟨h1, hh⟩ := rz_bif hh
      cases hh
      simp only [Bool.and_eq_true] at h1
      exact fun Q kk => rz_o_land C hd h1.1 h1.2 kk
  | lor =>
    have hd := rz_dk hd hn (fun _ _ _ _ q => by cases q)
    dsimp only at hh
    match S, hh with
    | [], hh => cases hh
    | [_], hh => cases hh
    | y :: x :: S, hh =>
      obtain ⟨h1, hh⟩ := rz_bif hh
      cases hh
      simp only [Bool.and_eq_true] at h1
      exact fun Q kk => rz_o_lor C hd h1.1 h1.2 kk
  | lshl =>
    have hd := rz_dk hd hn (fun _ _ _ _ q => by cases q)
    dsimp only at hh
    match S, hh with
    | [], hh => cases hh
    | [_], hh => cases hh
    | y :: x :: S, hh =>
      obtain ⟨h1, hh⟩ := rz_bif hh
      cases hh
      simp only [Bool.and_eq_true] at h1
      exact fun Q kk => rz_o_lshl C hd h1.1 h1.2 kk
  | lcmp =>
    have hd := rz_dk hd hn (fun _ _ _ _ q => by cases q)
    dsimp only at hh
    match S, hh with
    | [], hh => cases hh
    | [_], hh => cases hh
    | y :: x :: S, hh =>
      dsimp only at hh
      cases hv : rz_lcmp B x y with
      | none => simp [hv] at hh
      | some v =>
        simp only [hv] at hh
        cases hh
        exact fun Q kk => rz_o_lcmp C hd hv kk
  | i2l =>
    have hd := rz_dk hd hn (fun _ _ _ _ q => by cases q)
    dsimp only at hh
    match S, hh with
    | [], hh => cases hh
    | v :: S, hh =>
      obtain ⟨h1, hh⟩ := rz_bif hh
      cases hh
      exact fun Q kk => rz_o_i2l C hd h1 kk
  | l2i =>
    have hd := rz_dk hd hn (fun _ _ _ _ q => by cases q)
    dsimp only at hh
    match S, hh with
    | [], hh => cases hh
    | v :: S, hh =>
      obtain ⟨h1, hh⟩ := rz_bif hh
      cases hh
      exact fun Q kk => rz_o_l2i C hd h1 kk
  | goto off =>
    have hd := rz_dk hd hn (fun _ _ _ _ q => by cases q)
    dsimp only at hh
    cases ht : rz_jp pc off with
    | none => simp [ht] at hh
    | some t =>
      simp only [ht] at hh
      cases hh
      exact fun Q kk => rz_o_goto C hd ht kk
  | ifCond cd off =>
    have hd := rz_dk hd hn (fun _ _ _ _ q => by cases q)
    dsimp only at hh
    match S, hh with
    | [], hh => cases hh
    | x :: S, hh =>
      dsimp only at hh
      cases ht : rz_jp pc off with
      | none => simp [ht] at hh
      | some t =>
        cases hr : rz_cmp cd B x (0, 0) with
        | none => simp [ht, hr] at hh
        | some r0 =>
          cases r0 with
          | true =>
            simp only [ht, hr] at hh
            cases hh
            exact fun Q kk => rz_o_ifc C hd ht hr (by rw [if_pos rfl]; exact kk)
          | false =>
            simp only [ht, hr] at hh
            cases hh
            exact fun Q kk => rz_o_ifc C hd ht hr (by rw [if_neg (by decide)]; exact kk)
  | if_icmp cd off =>
    have hd := rz_dk hd hn (fun _ _ _ _ q => by cases q)
    dsimp only at hh
    match S, hh with
    | [], hh => cases hh
    | [_], hh => cases hh
    | y :: x :: S, hh =>
      dsimp only at hh
      cases ht : rz_jp pc off with
      | none => simp [ht] at hh
      | some t =>
        cases hr : rz_cmp cd B x y with
        | none => simp [ht, hr] at hh
        | some r0 =>
          cases r0 with
          | true =>
            simp only [ht, hr] at hh
            cases hh
            exact fun Q kk => rz_o_icmp C hd ht hr (by rw [if_pos rfl]; exact kk)
          | false =>
            simp only [ht, hr] at hh
            cases hh
            exact fun Q kk => rz_o_icmp C hd ht hr (by rw [if_neg (by decide)]; exact kk)
  | ifnull off =>
    have hd := rz_dk hd hn (fun _ _ _ _ q => by cases q)
    dsimp only at hh
    match S, hh with
    | [], hh => cases hh
    | x :: S, hh =>
      dsimp only at hh
      cases h5 : Nat.beq x.1 5 with
      | true =>
        simp only [h5, cond_true] at hh
        cases ht : rz_jp pc off with
        | none => simp [ht] at hh
        | some t =>
          simp only [ht] at hh
          cases hh
          exact fun Q kk => rz_o_ifnull_t C hd h5 ht kk
      | false =>
        simp only [h5, cond_false] at hh
        obtain ⟨h1, hh⟩ := rz_bif hh
        cases hh
        exact fun Q kk => rz_o_ifnull_f C hd h1 kk
  | ifnonnull off =>
    have hd := rz_dk hd hn (fun _ _ _ _ q => by cases q)
    dsimp only at hh
    match S, hh with
    | [], hh => cases hh
    | x :: S, hh =>
      dsimp only at hh
      cases h4 : Nat.beq x.1 4 with
      | true =>
        simp only [h4, cond_true] at hh
        cases ht : rz_jp pc off with
        | none => simp [ht] at hh
        | some t =>
          simp only [ht] at hh
          cases hh
          exact fun Q kk => rz_o_ifnon_t C hd h4 ht kk
      | false =>
        simp only [h4, cond_false] at hh
        obtain ⟨h1, hh⟩ := rz_bif hh
        cases hh
        exact fun Q kk => rz_o_ifnon_f C hd h1 kk
  | tableswitch df lo hi offs =>
    dsimp only at hh
    match S, hh with
    | [], hh => cases hh
    | x :: S, hh =>
      dsimp only at hh
      cases hx : rz_itv B x with
      | none => simp [hx] at hh
      | some q =>
        obtain ⟨l0, u0⟩ := q
        simp only [hx] at hh
        cases h0 : decide (hi < l0) || decide (u0 < lo) with
        | true =>
          simp only [h0, cond_true] at hh
          cases ht : rz_jp pc df with
          | none => simp [ht] at hh
          | some t =>
            simp only [ht] at hh
            cases hh
            simp only [Bool.or_eq_true, decide_eq_true_eq] at h0
            exact fun Q kk => rz_o_swOut C hd hx h0 ht kk
        | false =>
          simp only [h0, cond_false] at hh
          obtain ⟨h1, hh⟩ := rz_bif hh
          simp only [Bool.and_eq_true, decide_eq_true_eq] at h1
          cases ho : rz_nth offs.toList (l0 - lo).toNat with
          | none => simp [ho] at hh
          | some off =>
            simp only [ho] at hh
            cases ht : rz_jp pc off with
            | none => simp [ht] at hh
            | some t =>
              simp only [ht] at hh
              cases hh
              exact fun Q kk => rz_o_swIn C hd hx h1.1 h1.2.1 h1.2.2 ho ht kk
  | arraylength =>
    have hd := rz_dk hd hn (fun _ _ _ _ q => by cases q)
    dsimp only at hh
    match S, hh with
    | [], hh => cases hh
    | x :: S, hh =>
      dsimp only at hh
      cases h8 : Nat.beq x.1 8 with
      | true =>
        simp only [h8, cond_true] at hh
        cases hh
        exact fun Q kk => rz_o_slen C hd h8 kk
      | false =>
        simp only [h8, cond_false] at hh
        cases hc : rz_cell h x with
        | none => simp [hc] at hh
        | some e0 =>
          simp only [hc] at hh
          obtain ⟨h1, hh⟩ := rz_bif hh
          cases hh
          simp only [Bool.and_eq_true, decide_eq_true_eq] at h1
          have hk9 : 0 < e0.1 ∧ e0.1 < 16 ∧ rz_ak e0.1 = true := by
            have h2 := h1.1
            simp only [Bool.or_eq_true] at h2
            rcases h2 with q | q | q | q
            · have := Nat.eq_of_beq_eq_true q; rw [this]; exact ⟨by decide, by decide, rfl⟩
            · have := Nat.eq_of_beq_eq_true q; rw [this]; exact ⟨by decide, by decide, rfl⟩
            · have := Nat.eq_of_beq_eq_true q; rw [this]; exact ⟨by decide, by decide, rfl⟩
            · have := rz_isRs q; exact ⟨by omega, this.2.1, this.2.2⟩
          exact fun Q kk => rz_alen C hd hc hk9.1 hk9.2.1 hk9.2.2 h1.2 kk
  | iaload =>
    have hd := rz_dk hd hn (fun _ _ _ _ q => by cases q)
    dsimp only at hh
    match S, hh with
    | [], hh => cases hh
    | [_], hh => cases hh
    | ix :: x :: S, hh =>
      dsimp only at hh
      cases h8 : Nat.beq x.1 8 with
      | true =>
        simp only [h8, cond_true] at hh
        obtain ⟨h1, hh⟩ := rz_bif hh
        simp only [Bool.and_eq_true, decide_eq_true_eq] at h1
        cases hB : rz_nth B 8 with
        | none => simp [hB] at hh
        | some q =>
          obtain ⟨lo, hi⟩ := q
          simp only [hB] at hh
          obtain ⟨h2, hh⟩ := rz_bif hh
          cases hh
          exact fun Q kk => rz_o_script C hd h8 h1.1 h1.2 hB (of_decide_eq_true h2) kk
      | false =>
        simp only [h8, cond_false] at hh
        cases hv : rz_ld h (rz_is 1) ix x with
        | none => simp [hv] at hh
        | some v =>
          simp only [hv] at hh
          cases hh
          exact fun Q kk => rz_o_iaload C hd hv kk
  | laload =>
    have hd := rz_dk hd hn (fun _ _ _ _ q => by cases q)
    dsimp only at hh
    match S, hh with
    | [], hh => cases hh
    | [_], hh => cases hh
    | ix :: x :: S, hh =>
      dsimp only at hh
      cases hv : rz_ld h (rz_is 2) ix x with
      | none => simp [hv] at hh
      | some v =>
        simp only [hv] at hh
        cases hh
        exact fun Q kk => rz_o_laload C hd hv kk
  | baload =>
    have hd := rz_dk hd hn (fun _ _ _ _ q => by cases q)
    dsimp only at hh
    match S, hh with
    | [], hh => cases hh
    | [_], hh => cases hh
    | ix :: x :: S, hh =>
      dsimp only at hh
      cases hv : rz_ld h (rz_is 3) ix x with
      | none => simp [hv] at hh
      | some v =>
        simp only [hv] at hh
        cases hh
        exact fun Q kk => rz_o_baload C hd hv kk
  | aaload =>
    have hd := rz_dk hd hn (fun _ _ _ _ q => by cases q)
    dsimp only at hh
    match S, hh with
    | [], hh => cases hh
    | [_], hh => cases hh
    | ix :: x :: S, hh =>
      dsimp only at hh
      cases hv : rz_ld h rz_isR ix x with
      | none => simp [hv] at hh
      | some v =>
        simp only [hv] at hh
        cases hh
        exact fun Q kk => rz_o_aaload C hd hv kk
  | iastore =>
    have hd := rz_dk hd hn (fun _ _ _ _ q => by cases q)
    dsimp only at hh
    match S, hh with
    | [], hh => cases hh
    | [_], hh => cases hh
    | [_, _], hh => cases hh
    | v :: ix :: x :: S, hh =>
      obtain ⟨h1, hh⟩ := rz_bif hh
      cases hv : rz_as h (rz_is 1) v ix x with
      | none => simp [hv] at hh
      | some h9 =>
        simp only [hv] at hh
        cases hh
        exact fun Q kk => rz_o_iastore C hd h1 hv kk
  | lastore =>
    have hd := rz_dk hd hn (fun _ _ _ _ q => by cases q)
    dsimp only at hh
    match S, hh with
    | [], hh => cases hh
    | [_], hh => cases hh
    | [_, _], hh => cases hh
    | v :: ix :: x :: S, hh =>
      obtain ⟨h1, hh⟩ := rz_bif hh
      cases hv : rz_as h (rz_is 2) v ix x with
      | none => simp [hv] at hh
      | some h9 =>
        simp only [hv] at hh
        cases hh
        exact fun Q kk => rz_o_lastore C hd h1 hv kk
  | bastore =>
    have hd := rz_dk hd hn (fun _ _ _ _ q => by cases q)
    dsimp only at hh
    match S, hh with
    | [], hh => cases hh
    | [_], hh => cases hh
    | [_, _], hh => cases hh
    | v :: ix :: x :: S, hh =>
      obtain ⟨h1, hh⟩ := rz_bif hh
      cases hv : rz_as h (rz_is 3) v ix x with
      | none => simp [hv] at hh
      | some h9 =>
        simp only [hv] at hh
        cases hh
        exact fun Q kk => rz_o_bastore C hd h1 hv kk
  | aastore =>
    have hd := rz_dk hd hn (fun _ _ _ _ q => by cases q)
    dsimp only at hh
    match S, hh with
    | [], hh => cases hh
    | [_], hh => cases hh
    | [_, _], hh => cases hh
    | v :: ix :: x :: S, hh =>
      dsimp only at hh
      cases hc : rz_cell h v with
      | none => simp [hc] at hh
      | some e1 =>
        simp only [hc] at hh
        obtain ⟨h1, hh⟩ := rz_bif hh
        simp only [Bool.and_eq_true] at h1
        cases hv : rz_as h (rz_is (e1.2.1 + 4)) v ix x with
        | none => simp [hv] at hh
        | some h9 =>
          simp only [hv] at hh
          cases hh
          have h2 := rz_isRs h1.2
          exact fun Q kk => rz_o_aastore C (hcl _ (by omega)) hd hc h1.1 (by omega) h2.2.2 hv kk
  | getfield x9 =>
    have hd := rz_dk hd hn (fun _ _ _ _ q => by cases q)
    dsimp only at hh
    match S, hh with
    | [], hh => cases hh
    | x :: S, hh =>
      dsimp only at hh
      cases hc : rz_cell h x with
      | none => simp [hc] at hh
      | some e1 =>
        simp only [hc] at hh
        obtain ⟨h1, hh⟩ := rz_bif hh
        simp only [Bool.and_eq_true] at h1
        cases hv : rz_nth e1.2.2.1 b.toNat with
        | none => simp [hv] at hh
        | some v =>
          simp only [hv] at hh
          cases hh
          exact fun Q kk => rz_o_getf C hS.1 hS.2 hd hc h1.1 h1.2 hv kk
  | putfield x9 =>
    have hd := rz_dk hd hn (fun _ _ _ _ q => by cases q)
    dsimp only at hh
    match S, hh with
    | [], hh => cases hh
    | [_], hh => cases hh
    | v :: x :: S, hh =>
      dsimp only at hh
      cases hc : rz_cell h x with
      | none => simp [hc] at hh
      | some e1 =>
        simp only [hc] at hh
        obtain ⟨h1, hh⟩ := rz_bif hh
        simp only [Bool.and_eq_true] at h1
        cases hh
        exact fun Q kk => rz_o_putf C hS.1 hS.2.1 hS.2.2 hd hc h1.1 h1.2.1 (Nat.blt_eq.mp h1.2.2.1) h1.2.2.2.2 kk (fun j a0 hj => Nat.lt_of_lt_of_le (rz_nth_lt hj) (Nat.ble_eq.mp h1.2.2.2.1))
  | new x9 =>
    have hd := rz_dk hd hn (fun _ _ _ _ q => by cases q)
    dsimp only at hh
    obtain ⟨h1, hh⟩ := rz_bif hh
    simp only [Bool.and_eq_true] at h1
    cases hh
    exact fun Q kk => rz_o_new C hS.1 hS.2.1 hS.2.2 hd (by rw [hRc]; exact Nat.ble_eq.mp h1.1) (by rw [hRs]; exact Nat.ble_eq.mp h1.2) kk
  | newarray t =>
    have hd := rz_dk hd hn (fun _ _ _ _ q => by cases q)
    dsimp only at hh
    match S, hh with
    | [], hh => cases hh
    | x :: S, hh =>
      obtain ⟨h1, hh⟩ := rz_bif hh
      simp only [Bool.and_eq_true, decide_eq_true_eq] at h1
      cases t with
      | int =>
        cases hh
        exact fun Q kk => rz_o_newa C hd (Or.inl ⟨rfl, rfl⟩) hS h1.1 h1.2.1 h1.2.2.1 (by rw [hRc]; exact Nat.ble_eq.mp h1.2.2.2.1) (by rw [hRs]; exact Nat.ble_eq.mp h1.2.2.2.2) kk
      | long =>
        cases hh
        exact fun Q kk => rz_o_newa C hd (Or.inr (Or.inl ⟨rfl, rfl⟩)) hS h1.1 h1.2.1 h1.2.2.1 (by rw [hRc]; exact Nat.ble_eq.mp h1.2.2.2.1) (by rw [hRs]; exact Nat.ble_eq.mp h1.2.2.2.2) kk
      | boolean =>
        cases hh
        exact fun Q kk => rz_o_newa C hd (Or.inr (Or.inr ⟨rfl, rfl⟩)) hS h1.1 h1.2.1 h1.2.2.1 (by rw [hRc]; exact Nat.ble_eq.mp h1.2.2.2.1) (by rw [hRs]; exact Nat.ble_eq.mp h1.2.2.2.2) kk
      | _ => cases hh
  | anewarray x9 =>
    have hd := rz_dk hd hn (fun _ _ _ _ q => by cases q)
    dsimp only at hh
    match S, hh with
    | [], hh => cases hh
    | x :: S, hh =>
      obtain ⟨h1, hh⟩ := rz_bif hh
      simp only [Bool.and_eq_true, decide_eq_true_eq] at h1
      cases hh
      exact fun Q kk => rz_o_anew C hd hS.1 hS.2.1 hS.2.2.1 hS.2.2.2 h1.1 h1.2.1 h1.2.2.1 (by rw [hRc]; exact Nat.ble_eq.mp h1.2.2.2.1) (by rw [hRs]; exact Nat.ble_eq.mp h1.2.2.2.2) kk
  | ireturn =>
    have hd := rz_dk hd hn (fun _ _ _ _ q => by cases q)
    dsimp only at hh
    match S, hh with
    | [], hh => cases hh
    | _ :: _ :: _, hh => cases hh
    | [v], hh =>
      obtain ⟨h1, hh⟩ := rz_bif hh
      cases hh
      simp only [Bool.and_eq_true, Bool.or_eq_true, Bool.not_eq_true'] at h1
      refine rz_o_ireturn C hd h1.1 ?_
      rcases hS with ⟨q1, q2⟩ | ⟨q1, q2⟩
      · exact Or.inl q1
      · rcases h1.2 with q3 | q3
        · rw [q2] at q3; cases q3
        · exact Or.inr ⟨q1, q3⟩
  | lreturn =>
    have hd := rz_dk hd hn (fun _ _ _ _ q => by cases q)
    dsimp only at hh
    match S, hh with
    | [], hh => cases hh
    | _ :: _ :: _, hh => cases hh
    | [v], hh =>
      obtain ⟨h1, hh⟩ := rz_bif hh
      cases hh
      exact rz_o_lreturn C hd h1 hS
  | areturn =>
    have hd := rz_dk hd hn (fun _ _ _ _ q => by cases q)
    dsimp only at hh
    match S, hh with
    | [], hh => cases hh
    | _ :: _ :: _, hh => cases hh
    | [v], hh =>
      obtain ⟨h1, hh⟩ := rz_bif hh
      cases hh
      obtain ⟨n9, hS⟩ := hS
      exact rz_o_areturn C hd h1 hS
  | return_ =>
    have hd := rz_dk hd hn (fun _ _ _ _ q => by cases q)
    dsimp only at hh
    match S, hh with
    | _ :: _, hh => cases hh
    | [], hh =>
      cases hh
      exact rz_o_return C hd hS
  | invokespecial x9 =>
    have hd := rz_dk hd hn (fun _ _ _ _ q => by cases q)
    dsimp only at hh
    rcases hS with ⟨rfl, q1, q2, q3⟩ | ⟨hb1, q1, q2, q3, q4, q5, q6, q7, q8⟩
    · simp only [decide_true, cond_true] at hh
      match S, hh with
      | [], hh => cases hh
      | x :: S, hh =>
        obtain ⟨h1, hh⟩ := rz_bif hh
        cases hh
        simp only [Bool.and_eq_true] at h1
        exact fun Q kk => rz_o_objinit C hnl hd q1 q2 q3 h1.1 (Nat.ble_eq.mp h1.2) (by omega) (by omega) kk
    · simp only [hb1, decide_false, cond_false] at hh
      cases htk : rz_tk (rz_np a) [] S with
      | none => simp [htk] at hh
      | some q =>
        obtain ⟨as0, S9⟩ := q
        cases as0 with
        | nil => simp [htk] at hh
        | cons x as =>
          simp only [htk] at hh
          obtain ⟨h1, hh⟩ := rz_bif hh
          simp only [Bool.and_eq_true] at h1
          cases hc : call a (x :: as) h (K - k) (Z - z) with
          | none => simp [hc] at hh
          | some r9 =>
            obtain ⟨⟨n9, v9⟩, h9, k9, z9⟩ := r9
            match n9, hc, hh with
            | 0, hc, hh =>
              simp only [hc] at hh
              cases hh
              exact fun Q kk => rz_o_spec C hnl ok q1 q2 q3 q4 q5 q6 q7 q8 hfr hlo hRc hRs hd htk h1.1 (Nat.ble_eq.mp h1.2.1) (Nat.ble_eq.mp h1.2.2.1) (Nat.ble_eq.mp h1.2.2.2) hc (rz_aft0 kk)
            | n9 + 1, hc, hh => simp [hc] at hh
  | invokevirtual x9 =>
    have hd := rz_dk hd hn (fun _ _ _ _ q => by cases q)
    dsimp only at hh
    obtain ⟨q1, q2, q3, q4, q5, q6⟩ := hS
    cases htk : rz_tk (rz_np a) [] S with
    | none => simp [htk] at hh
    | some q =>
      obtain ⟨as0, S9⟩ := q
      cases as0 with
      | nil => simp [htk] at hh
      | cons x as =>
        simp only [htk] at hh
        cases hx : rz_cell h x with
        | none => simp [hx] at hh
        | some e0 =>
          simp only [hx] at hh
          obtain ⟨h1, hh⟩ := rz_bif hh
          simp only [Bool.and_eq_true] at h1
          cases hc : call a (x :: as) h (K - k) (Z - z) with
          | none => simp [hc] at hh
          | some r9 =>
            obtain ⟨⟨n9, v9⟩, h9, k9, z9⟩ := r9
            match n9, hc, hh with
            | 0, hc, hh =>
              simp only [hc] at hh
              cases hh
              exact fun Q kk => rz_o_virt C hnl ok q1 q2 q3 q4 q5 q6 hfr hlo hRc hRs hd htk hx h1.1 h1.2.1 (Nat.ble_eq.mp h1.2.2.1) (Nat.ble_eq.mp h1.2.2.2.1) (Nat.ble_eq.mp h1.2.2.2.2) hc (rz_aft0 kk)
            | 1, hc, hh =>
              simp only [hc] at hh
              cases hh
              exact fun Q kk => rz_o_virt C hnl ok q1 q2 q3 q4 q5 q6 hfr hlo hRc hRs hd htk hx h1.1 h1.2.1 (Nat.ble_eq.mp h1.2.2.1) (Nat.ble_eq.mp h1.2.2.2.1) (Nat.ble_eq.mp h1.2.2.2.2) hc (rz_aft1 kk)
            | n9 + 2, hc, hh =>
              simp only [hc] at hh
              cases hhd : rz_hd (rz_hh i) pc with
              | none =>
                simp only [hhd] at hh
                cases hh
                exact rz_o_virt C hnl ok q1 q2 q3 q4 q5 q6 hfr hlo hRc hRs hd htk hx h1.1 h1.2.1 (Nat.ble_eq.mp h1.2.2.1) (Nat.ble_eq.mp h1.2.2.2.1) (Nat.ble_eq.mp h1.2.2.2.2) hc (rz_aftO C hhd)
              | some q =>
                obtain ⟨t, ct⟩ := q
                simp only [hhd] at hh
                obtain ⟨h2, hh⟩ := rz_bif hh
                cases hh
                have hln : Cond.classLink (rz_cn (rz_mo i)) 13 rz_iae ∈ rz_TS := by
                  rcases hcc with q | q
                  · rw [q] at hhd; cases hhd
                  · exact q
                exact fun Q kk => rz_o_virt C hnl ok q1 q2 q3 q4 q5 q6 hfr hlo hRc hRs hd htk hx h1.1 h1.2.1 (Nat.ble_eq.mp h1.2.2.1) (Nat.ble_eq.mp h1.2.2.2.1) (Nat.ble_eq.mp h1.2.2.2.2) hc (rz_aftC C hln hca (by rw [hhd, Nat.eq_of_beq_eq_true h2]) kk)
  | invokestatic x9 =>
    have hd := rz_dk hd hn (fun _ _ _ _ q => by cases q)
    dsimp only at hh
    obtain ⟨q1, q3, q4, q6⟩ := hS
    cases htk : rz_tk (rz_np a) [] S with
    | none => simp [htk] at hh
    | some q =>
      obtain ⟨as, S9⟩ := q
      simp only [htk] at hh
      obtain ⟨h1, hh⟩ := rz_bif hh
      simp only [Bool.and_eq_true] at h1
      cases hc : call a as h (K - k) (Z - z) with
      | none => simp [hc] at hh
      | some r9 =>
        obtain ⟨⟨n9, v9⟩, h9, k9, z9⟩ := r9
        match n9, hc, hh with
        | 0, hc, hh =>
          simp only [hc] at hh
          cases hh
          exact fun Q kk => rz_o_stat C hnl ok q1 q3 q4 q6 hfr hlo hRc hRs hd htk (Nat.ble_eq.mp h1.1) (Nat.ble_eq.mp h1.2.1) (Nat.ble_eq.mp h1.2.2) hc (rz_aft0 kk)
        | 1, hc, hh =>
          simp only [hc] at hh
          cases hh
          exact fun Q kk => rz_o_stat C hnl ok q1 q3 q4 q6 hfr hlo hRc hRs hd htk (Nat.ble_eq.mp h1.1) (Nat.ble_eq.mp h1.2.1) (Nat.ble_eq.mp h1.2.2) hc (rz_aft1 kk)
        | n9 + 2, hc, hh =>
          simp only [hc] at hh
          cases hhd : rz_hd (rz_hh i) pc with
          | none =>
            simp only [hhd] at hh
            cases hh
            exact rz_o_stat C hnl ok q1 q3 q4 q6 hfr hlo hRc hRs hd htk (Nat.ble_eq.mp h1.1) (Nat.ble_eq.mp h1.2.1) (Nat.ble_eq.mp h1.2.2) hc (rz_aftO C hhd)
          | some q =>
            obtain ⟨t, ct⟩ := q
            simp only [hhd] at hh
            obtain ⟨h2, hh⟩ := rz_bif hh
            cases hh
            have hln : Cond.classLink (rz_cn (rz_mo i)) 13 rz_iae ∈ rz_TS := by
              rcases hcc with q | q
              · rw [q] at hhd; cases hhd
              · exact q
            exact fun Q kk => rz_o_stat C hnl ok q1 q3 q4 q6 hfr hlo hRc hRs hd htk (Nat.ble_eq.mp h1.1) (Nat.ble_eq.mp h1.2.1) (Nat.ble_eq.mp h1.2.2) hc (rz_aftC C hln hca (by rw [hhd, Nat.eq_of_beq_eq_true h2]) kk)
  | _ => cases hh
end
