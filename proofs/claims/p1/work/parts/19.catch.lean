/-! A throw that comes to a frame: it is caught there, or goes on. -/
theorem rz_hdn : ∀ {hh : List (Nat × Nat × Nat × Nat)} {pc : Nat}, rz_hd hh pc = none → ∀ x ∈ tableOf hh, covers x pc = false
  | [], _, _, x, hx => by cases hx
  | q :: hh, pc, h, x, hx => by
    unfold rz_hd at h
    cases e : Nat.ble q.1 pc && Nat.blt pc q.2.1 with
    | true => simp [e] at h
    | false =>
      simp only [e, cond_false] at h
      rcases List.mem_cons.mp hx with rfl | hx
      · show (decide (q.1 ≤ pc) && decide (pc < q.2.1)) = false
        rw [← e]
        congr 1
        · rw [Bool.eq_iff_iff]; simp
        · rw [Bool.eq_iff_iff]; simp [Nat.blt_eq]
      · exact rz_hdn h x hx
theorem rz_hds : ∀ {hh : List (Nat × Nat × Nat × Nat)} {pc t ct : Nat}, rz_hd hh pc = some (t, ct) → ∃ pre x suf, tableOf hh = pre ++ x :: suf ∧ (∀ y ∈ pre, covers y pc = false) ∧ covers x pc = true ∧ x.handlerPc = t ∧ x.catchType = ct
  | [], _, _, _, h => by cases h
  | q :: hh, pc, t, ct, h => by
    unfold rz_hd at h
    have e0 : covers (⟨q.1, q.2.1, q.2.2.1, q.2.2.2⟩ : ExceptionTableEntry) pc = (Nat.ble q.1 pc && Nat.blt pc q.2.1) := by
      show (decide (q.1 ≤ pc) && decide (pc < q.2.1)) = _
      congr 1
      · rw [Bool.eq_iff_iff]; simp
      · rw [Bool.eq_iff_iff]; simp [Nat.blt_eq]
    cases e : Nat.ble q.1 pc && Nat.blt pc q.2.1 with
    | true =>
      simp only [e, cond_true, Option.some.injEq] at h
      exact ⟨[], ⟨q.1, q.2.1, q.2.2.1, q.2.2.2⟩, tableOf hh, rfl, (fun y hy => by cases hy), (by rw [e0, e]), (by rw [h]), (by rw [h])⟩
    | false =>
      simp only [e, cond_false] at h
      obtain ⟨pre, x, suf, h1, h2, h3⟩ := rz_hds h
      refine ⟨⟨q.1, q.2.1, q.2.2.1, q.2.2.2⟩ :: pre, x, suf, ?_, fun y hy => ?_, h3⟩
      · show _ :: tableOf hh = _
        rw [h1]; rfl
      · rcases List.mem_cons.mp hy with rfl | hy
        · rw [e0, e]
        · exact h2 y hy
section
variable {G : rz_G} {B : rz_B} {i nL : Nat} {p : Program} {l : Launch} {e : Env} {R : Room} {s : State} {m : MethodId} {args : Array Value} {below : List Frame} {meth : Method} {c : Code}
variable {pc : Nat} {L : List (Nat × rz_V)} {S : List rz_V} {h : List rz_E} {k z : Nat} {Q : State → Prop} {H : Heap} {locs : List Loc} {ls : Array Slot} {rest : List Value}
theorem rz_catchW (C : rz_C G B i p l s m args meth c) {t : Nat} {q : Addr} {ce : Cell} (hln : Cond.classLink (rz_cn (rz_mo i)) 13 rz_iae ∈ rz_TS) (hca : Cond.castable rz_iae rz_iae ∈ rz_TS) (hd : rz_hd (rz_hh i) pc = some (t, 13)) (hcell : H[q]? = some ce) (hv : ce.vm = .none) (hcl : ce.cls = rz_x G)
    (kk : W p l e R s m args below meth c H locs k z Q (F0 m t ls [.ref q])) : vx_W p l e R s m args below meth c H locs k z Q (F0 m pc ls rest) q := by
  intro T hT X
  have hpl : e.platform.magicAccessors = ({} : Platform).magicAccessors := by rw [X.admits.platform]
  obtain ⟨c5, hc5, hcl5⟩ := Cond.classLink_spec (rz_Co C) (rz_Ct C _ hln) e.platform hpl
  have e5 : c5 = rz_x G := Option.some.inj (hc5.symm.trans (rz_Cw C).2.2.2.1)
  obtain ⟨hg₁, hwarm₁, hready₁⟩ := State.classEntry (e := e) X.warmed hcl5
  generalize hvm1 : T.vm.noted m.cls 13 (.cls c5) = vm₁ at hg₁ hwarm₁ hready₁
  have X₁ := X.noted hwarm₁
  obtain ⟨t2, a1, b1⟩ := kk (T.setVm vm₁) hT X₁
  refine ⟨t2, ?_, b1⟩
  have hcast : (Cond.castable rz_iae rz_iae).before #[] (T.setVm vm₁) = true := rz_gw_at (U := T.setVm vm₁) hwarm₁ (List.mem_filter.mp hca).2 (rz_Ct C _ hca)
  obtain ⟨c3, c4, hc3, hc4, hasg⟩ := Cond.castable_spec hcast
  have e3 : c3 = rz_x G := by
    have h1 : vm₁.findClass rz_iae = some c3 := hc3
    rw [hwarm₁.alike.findClass] at h1
    exact Option.some.inj (h1.symm.trans (rz_Cw C).2.2.2.1)
  have e4 : c4 = rz_x G := by
    have h1 : vm₁.findClass rz_iae = some c4 := hc4
    rw [hwarm₁.alike.findClass] at h1
    exact Option.some.inj (h1.symm.trans (rz_Cw C).2.2.2.1)
  have hasg' : vm₁.assignable ce.cls c5 = true := by
    rw [hcl, e5, ← e3]
    have h9 : vm₁.assignable c3 c4 = true := hasg
    rw [e4, ← e3] at h9
    exact h9
  have hkx : ∃ k9, vm₁.classes[rz_x G]? = some k9 := by
    have h1 : vm₁.findClass rz_iae = some c3 := hc3
    rw [e3] at h1
    exact Vm.classAt_of_findClass h1
  obtain ⟨pre, x, suf, p1, p2, p3, p4, p5⟩ := rz_hds hd
  have htab : c.exceptionTable.toList = pre ++ x :: suf := by rw [C.2.2.2.2.2.2.2.2.1, p1]
  have h : At T (F0 m pc ls rest).method c below := X.here
  subst p4
  refine rz_caught h (vm' := vm₁) (fun Q0 E0 d0 acts0 => ?_) a1
  rw [Jvm.W.findHandler_eq (s := (T.setTop (F0 m pc ls rest)).pushFrame (.throwing q)) (meth := meth) (code := c) (by rw [Stand.throwing_vm]; exact X.method') X.code, htab]
  clear htab p1
  induction pre with
  | nil =>
    refine rz_find (c := c5) (cell := ce) p3 (by rw [p5]; decide) (by rw [p5, Stand.throwing_vm]; exact hg₁) (by rw [Stand.throwing_vm, ← hvm1, Vm.size_noted]; exact Nat.le_refl _) (by rw [Stand.throwing_heap, hT]; exact hcell) (fun k9 h9 => by rw [hv] at h9; cases h9) (by rw [hcl]; exact hkx) (by rw [e5]; exact hkx) hasg'
  | cons y pre ih =>
    rw [List.cons_append, Jvm.W.findHandler_go_skip (p2 y List.mem_cons_self)]
    exact ih (fun y hy => p2 y (List.mem_cons_of_mem _ hy))
theorem rz_outW (C : rz_C G B i p l s m args meth c) {q : Addr} {Qd : Outcome → State → Prop} (hd : rz_hd (rz_hh i) pc = none) (hf : ∀ q ∈ locs, rz_n0 G ≤ q.base) (hq : ∀ t : State, t.heap = H → Qd (.threw q) t) :
    vx_W p l e R s m args below meth c H locs k z (rz_MQ below Qd s k z (rz_fr G)) (F0 m pc ls rest) q := by
  intro T hT X
  obtain ⟨st1, hrun, hend, hW, hsm⟩ := X.leaveThrown q (g := F0 m pc ls rest) rfl rfl rfl (by rw [C.2.2.2.2.2.2.2.2.1]; exact rz_hdn hd) C.2.2.2.2.2.2.1
  exact ⟨_, st1, .threw q, hrun, hend, hq _ hT, locs, ⟨hW, hsm⟩, hf⟩
end
