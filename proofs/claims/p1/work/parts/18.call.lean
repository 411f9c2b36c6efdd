/-! Calls of methods by what the small machine says of them; catching. -/
def rz_rm (d K Z : Nat) : Room := { frames := d + 8, cells := K, slots := Z, locals := 64 * d + 128 }
def rz_Pc (G : rz_G) (h : List rz_E) (vs : List Value) : Array Value → State → Prop := fun A U => A = vs.toArray ∧ rz_hp G h U.heap ∧ rz_WI G rz_is0 U
/-- what the evaluator of callees says, of depth d, holds of the machine -/
def rz_cOK (G : rz_G) (l : Launch) (d : Nat) (call : Nat → List rz_V → List rz_E → Nat → Nat → Option rz_R) : Prop :=
  ∀ (a : Nat) (as : List rz_V) (h : List rz_E) (K Z : Nat) (r : rz_R), call a as h K Z = some r → ∀ vs : List Value, rz_sk G as vs → rz_Met l (rz_y a) rz_TS (rz_rm d K Z) (rz_Pc G h vs) (rz_Q G r) r.2.2.1 r.2.2.2 (rz_fr G)
/-- what the tables know of the method a -/
def rz_mOK (a : Nat) : Prop := ((rz_hh a = [] ∧ Cond.code (rz_y a) (rz_by a) (rz_nL a) (rz_ret a) ∈ rz_TS) ∨ Cond.codeWith (rz_y a) (rz_by a) (rz_nL a) (rz_ret a) (rz_hh a) ∈ rz_TS) ∧ Cond.initialized (rz_y a).cls ∈ rz_TS ∧ (rz_y a).cls = rz_cn (rz_mo a) ∧ plainFor (rz_y a) = true ∧
  ((rz_y a).cls ≠ "java/lang/invoke/MethodHandle" ∧ (rz_y a).cls ≠ "java/lang/invoke/VarHandle") ∧ rz_nL a ≤ 45
section
variable {G : rz_G} {B : rz_B} {i nL : Nat} {p : Program} {l : Launch} {e : Env} {R : Room} {s : State} {m : MethodId} {args : Array Value} {below : List Frame} {meth : Method} {c : Code}
variable {pc : Nat} {L : List (Nat × rz_V)} {S : List rz_V} {h : List rz_E} {k z : Nat} {Q : State → Prop} {H : Heap} {locs : List Loc} {ls : Array Slot} {rest : List Value}
theorem rz_code_at {a : Nat} (hm : rz_mOK a) {U : State} {A : Array Value} (hts : ∀ w ∈ rz_TS, w.before A U = true) {mk : MethodId} (hn : U.methodNamed? (rz_y a) = some mk) :
    ∃ meth c, U.vm.method? mk = some meth ∧ meth.code = some c ∧ c.code = rz_by a ∧ c.maxLocals = rz_nL a ∧ meth.sig.returnType = rz_ret a ∧ meth.locks = false ∧ c.exceptionTable.toList = tableOf (rz_hh a) ∧ parseMethodDescriptor (rz_y a).desc = some meth.sig := by
  rcases hm.1 with ⟨hh, hw⟩ | hw
  · obtain ⟨meth, c, h1, h2, h3, h4, h5, h6, h7, h8⟩ := Cond.code_spec hn (hts _ hw)
    refine ⟨meth, c, h1, h2, h3, h4, h5, h6, ?_, h8⟩
    rw [hh, Array.isEmpty_iff.mp h7]; rfl
  · obtain ⟨m9, meth, c, hn9, h1, h2, h3, h4, h5, h6, h7, h8⟩ := Cond.codeWith_spec (hts _ hw)
    cases hn.symm.trans hn9
    refine ⟨meth, c, h1, h2, h3, h4, h6, h7, ?_, h8⟩
    rw [← h5, tableOf, List.map_map]
    exact (List.map_id _).symm
theorem rz_core {T : State} (X : Stand p l e R s m args below meth c T locs k z) (hT : T.heap = H) (C : rz_C G B i p l s m args meth c) {a d K Z : Nat} {as : List rz_V} {vs : List Value} {r : rz_R} (hm : rz_mOK a)
    (hM : rz_Met l (rz_y a) rz_TS (rz_rm d K Z) (rz_Pc G h vs) (rz_Q G r) r.2.2.1 r.2.2.2 (rz_fr G)) (hfr : d + 9 ≤ R.frames) (hlo : 64 * d + 192 ≤ R.locals) (hkc : k + K ≤ R.cells) (hzs : z + Z ≤ R.slots)
    (hsz : ls.size = c.maxLocals) {ig : Instr} (hdg : decode c.code pc = .ok (ig, 3)) {st : List Value} (hcs : (st.map fun v => v.category).sum ≤ 8) {mk : MethodId} (hn : T.methodNamed? (rz_y a) = some mk) (hp : rz_hp G h H)
    (hk : ∀ (o : Outcome) (t : State) (Lc : List Loc), rz_Q G r o t → (∀ q ∈ Lc, rz_n0 G ≤ q.base) → match o with
      | .returned v => W p l e R s m args below meth c t.heap (locs ++ Lc) (k + r.2.2.1) (z + r.2.2.2) Q (F0 m (pc + 3) ls (v.toList ++ st))
      | .threw x => vx_W p l e R s m args below meth c t.heap (locs ++ Lc) (k + r.2.2.1) (z + r.2.2.2) Q (F0 m pc ls st) x) :
    ∃ t, Steps p.tables e below (doInvoke e (T.setTop (F0 m pc ls st)) [] mk vs.toArray).1 t ∧ Q t := by
  have hts := rz_TSat (a' := vs.toArray) X.warmed (rz_Ct C)
  obtain ⟨methY, cY, q1, q2, -, q4, -⟩ := rz_code_at hm hts hn
  obtain ⟨o, t, Lc, X', hW', hq, hL, hst⟩ := rz_call (W := 8) (maxL := rz_nL a) X hM (by show d + 8 + 1 ≤ _; omega) (by have := hm.2.2.2.2.2; show 8 + (rz_nL a + 11) + (64 * d + 128) ≤ _; omega) hkc hzs (g := F0 m pc ls st) rfl hsz hdg (by show 2 * 0 + (st.map fun v => v.category).sum ≤ 8; omega) hn ⟨methY, cY, q1, q2, q4⟩ (atoms_intro hts) (hts _ hm.2.1)
    (fun g mk => ⟨rfl, by show rz_hp G h T.heap; rw [hT]; exact hp, rz_WIw (U := T.calling g mk vs.toArray) X.warmed (rz_Cw C)⟩)
  have h9 := hk o t Lc hq hL
  cases o with
  | returned v =>
    obtain ⟨t2, a1, b1⟩ := h9 (({ T with heap := t.heap, slotsUsed := t.slotsUsed } : State).setVm t.vm) rfl X'
    exact ⟨t2, hst.trans a1, b1⟩
  | threw x =>
    obtain ⟨t2, a1, b1⟩ := h9 (({ T with heap := t.heap, slotsUsed := t.slotsUsed } : State).setVm t.vm) rfl X'
    exact ⟨t2, hst.trans a1, b1⟩
theorem rz_tks : ∀ (n : Nat) {acc S as S' : List rz_V} {av st : List Value}, rz_tk n acc S = some (as, S') → rz_sk G acc av → rz_sk G S st → ∃ us st', st = us ++ st' ∧ us.length = n ∧ rz_sk G as (us.reverse ++ av) ∧ rz_sk G S' st'
  | 0, acc, S, as, S', av, st, h, ha, hs => by
    cases h
    exact ⟨[], st, rfl, rfl, ha, hs⟩
  | n + 1, acc, [], as, S', av, st, h, ha, hs => by cases h
  | n + 1, acc, v :: S, as, S', av, st, h, ha, hs => by
    obtain ⟨w, st1, rfl, h2, hs1⟩ := rz_skc hs
    obtain ⟨us, st', e1, e2, e3, e4⟩ := rz_tks n (av := w :: av) h ⟨h2, ha⟩ hs1
    exact ⟨w :: us, st', by rw [e1]; rfl, by simp [e2], by simpa using e3, e4⟩
theorem rz_lsz (C : rz_C G B i p l s m args meth c) (hnl : nL = rz_nL i) (hl : rz_loc G nL L ls) : ls.size = c.maxLocals := by
  obtain ⟨lv, q1, -⟩ := hl
  rw [q1.1, hnl, C.2.2.2.1]
/-- the machine calls a static method -/
theorem rz_stat (C : rz_C G B i p l s m args meth c) {a idx d K Z n : Nat} {vs : List Value} {r : rz_R} (hm : rz_mOK a) (hln : Cond.methodLink (rz_cn (rz_mo i)) idx (rz_y a) ∈ rz_TS) (hst : Cond.static (rz_y a) ∈ rz_TS) (hpn : ∀ sig, parseMethodDescriptor (rz_y a).desc = some sig → sig.parameters.length = n) (hvs : vs.length = n)
    (hM : rz_Met l (rz_y a) rz_TS (rz_rm d K Z) (rz_Pc G h vs) (rz_Q G r) r.2.2.1 r.2.2.2 (rz_fr G)) (hfr : d + 9 ≤ R.frames) (hlo : 64 * d + 192 ≤ R.locals) (hkc : k + K ≤ R.cells) (hzs : z + Z ≤ R.slots)
    (hsz : ls.size = c.maxLocals) (hdg : decode (rz_by i) pc = .ok (.invokestatic idx, 3)) {st : List Value} (hcs : (st.map fun v => v.category).sum ≤ 8) (hp : rz_hp G h H)
    (hk : ∀ (o : Outcome) (t : State) (Lc : List Loc), rz_Q G r o t → (∀ q ∈ Lc, rz_n0 G ≤ q.base) → match o with
      | .returned v => W p l e R s m args below meth c t.heap (locs ++ Lc) (k + r.2.2.1) (z + r.2.2.2) Q (F0 m (pc + 3) ls (v.toList ++ st))
      | .threw x => vx_W p l e R s m args below meth c t.heap (locs ++ Lc) (k + r.2.2.1) (z + r.2.2.2) Q (F0 m pc ls st) x) :
    W p l e R s m args below meth c H locs k z Q (F0 m pc ls (vs.reverse ++ st)) := by
  intro T hT X
  have hts := rz_Ct C
  have hcw : ∃ mk, s.methodNamed? (rz_y a) = some mk := by
    rcases hm.1 with ⟨-, hw⟩ | hw
    · obtain ⟨mk, hq⟩ := Cond.code_named (hts _ hw)
      exact ⟨mk, hq⟩
    · obtain ⟨m9, meth, c, hn9, -⟩ := Cond.codeWith_spec (hts _ hw)
      exact ⟨m9, hn9⟩
  obtain ⟨mk, hnamed⟩ := hcw
  obtain ⟨methM, cM, hmethM, -, -, -, -, -, -, hsigM⟩ := rz_code_at hm hts hnamed
  have hstatic : methM.isStatic = true := Cond.static_spec hnamed hmethM (hts _ hst)
  obtain ⟨kP, hkP, -⟩ := className_of_methodNamed hnamed
  have hinitP : kP.init = .initialized := Cond.initialized_spec (findClass_of_methodNamed hnamed) hkP (hts _ hm.2.1)
  have hdg' : decode c.code pc = .ok (.invokestatic idx, 3) := by rw [C.2.1]; exact hdg
  obtain ⟨vm₁, X₁, hstep₁⟩ := X.invokestatic C.1 (rz_Co C) (hts _ hln) hnamed hmethM hstatic hkP hinitP hm.2.2.2.2.1 (g := F0 m pc ls (vs.reverse ++ st)) rfl (argsL := vs) (rest := st) (by rw [hvs]; exact (hpn _ hsigM).symm) rfl hdg'
  obtain ⟨t, a1, b1⟩ := rz_core (as := []) X₁ hT C hm hM hfr hlo hkc hzs hsz hdg' hcs (X₁.named hnamed) hp hk
  exact ⟨t, hstep₁ _ fun acts => by rw [doInvoke_state]; exact a1, b1⟩
/-- the machine calls an instance method of the class that the tables name -/
theorem rz_virt (C : rz_C G B i p l s m args meth c) {a idx d K Z n b : Nat} {vs : List Value} {r : rz_R} {cell : Cell} (hm : rz_mOK a) (hln : Cond.methodLink (rz_cn (rz_mo i)) idx (rz_y a) ∈ rz_TS) (hins : Cond.instanceMethod (rz_y a) ∈ rz_TS) (hsel : Cond.selects (rz_cn (rz_mo a)) (rz_y a) (rz_y a) ∈ rz_TS) (hpn : ∀ sig, parseMethodDescriptor (rz_y a).desc = some sig → sig.parameters.length = n) (hvs : vs.length = n)
    (hcell : H[b]? = some cell) (hvm : cell.vm = .none) (hcls : s.vm.findClass (rz_cn (rz_mo a)) = some cell.cls)
    (hM : rz_Met l (rz_y a) rz_TS (rz_rm d K Z) (rz_Pc G h (.ref b :: vs)) (rz_Q G r) r.2.2.1 r.2.2.2 (rz_fr G)) (hfr : d + 9 ≤ R.frames) (hlo : 64 * d + 192 ≤ R.locals) (hkc : k + K ≤ R.cells) (hzs : z + Z ≤ R.slots)
    (hsz : ls.size = c.maxLocals) (hdg : decode (rz_by i) pc = .ok (.invokevirtual idx, 3)) {st : List Value} (hcs : (st.map fun v => v.category).sum ≤ 8) (hp : rz_hp G h H)
    (hk : ∀ (o : Outcome) (t : State) (Lc : List Loc), rz_Q G r o t → (∀ q ∈ Lc, rz_n0 G ≤ q.base) → match o with
      | .returned v => W p l e R s m args below meth c t.heap (locs ++ Lc) (k + r.2.2.1) (z + r.2.2.2) Q (F0 m (pc + 3) ls (v.toList ++ st))
      | .threw x => vx_W p l e R s m args below meth c t.heap (locs ++ Lc) (k + r.2.2.1) (z + r.2.2.2) Q (F0 m pc ls st) x) :
    W p l e R s m args below meth c H locs k z Q (F0 m pc ls (vs.reverse ++ .ref b :: st)) := by
  intro T hT X
  have hts := rz_Ct C
  obtain ⟨mk, methM, hnamed, hmethM, hstM, habM⟩ := Cond.instanceMethod_spec (hts _ hins)
  obtain ⟨methM', cM, hmethM', -, -, -, -, -, -, hsigM⟩ := rz_code_at hm hts hnamed
  cases hmethM.symm.trans hmethM'
  obtain ⟨c2, r2, m2, q1, q2, q3, q4, kP, hkP, hkPi⟩ := Cond.selects_spec (hts _ hsel)
  cases hcls.symm.trans q1
  cases (State.methodFound?_of_named hnamed hm.2.2.2.2.1).symm.trans q2
  cases hnamed.symm.trans q3
  have hselP : selectMethod e.platform s.vm cell.cls mk = .method mk := by rw [Launch.admits_selectMethod X.admits]; exact q4
  have hdg' : decode c.code pc = .ok (.invokevirtual idx, 3) := by rw [C.2.1]; exact hdg
  obtain ⟨vm₁, X₁, hstep₁⟩ := X.invokevirtual C.1 (rz_Co C) (hts _ hln) hnamed hmethM hstM hkP hkPi hm.2.2.2.2.1 (a := b) (cell := cell) (by rw [hT]; exact hcell)
    (fun z h => by rw [hvm] at h; cases h) hselP hmethM habM hkP hkPi (g := F0 m pc ls (vs.reverse ++ .ref b :: st)) rfl (argsL := vs) (rest := st) (by rw [hvs]; exact (hpn _ hsigM).symm) rfl hdg'
  obtain ⟨t, a1, b1⟩ := rz_core (as := []) X₁ hT C hm hM hfr hlo hkc hzs hsz hdg' hcs (X₁.named hnamed) hp hk
  exact ⟨t, hstep₁ _ fun acts => by rw [doInvoke_state]; exact a1, b1⟩
/-- the machine calls a constructor -/
theorem rz_spec (C : rz_C G B i p l s m args meth c) {a idx d K Z n b : Nat} {vs : List Value} {r : rz_R} (hm : rz_mOK a) (hin : (rz_y a).name = "<init>") (hret : rz_ret a = none) (hh : rz_hh a = []) (hcw : Cond.code (rz_y a) (rz_by a) (rz_nL a) (rz_ret a) ∈ rz_TS) (hln : Cond.methodLink (rz_cn (rz_mo i)) idx (rz_y a) ∈ rz_TS ∨ ∃ host, Cond.methodLinkNest (rz_cn (rz_mo i)) idx (rz_y a) host ∈ rz_TS) (hins : Cond.instanceMethod (rz_y a) ∈ rz_TS) (hpn : ∀ sig, parseMethodDescriptor (rz_y a).desc = some sig → sig.parameters.length = n) (hvs : vs.length = n)
    (hM : rz_Met l (rz_y a) rz_TS (rz_rm d K Z) (rz_Pc G h (.ref b :: vs)) (rz_Q G r) r.2.2.1 r.2.2.2 (rz_fr G)) (hfr : d + 9 ≤ R.frames) (hlo : 64 * d + 192 ≤ R.locals) (hkc : k + K ≤ R.cells) (hzs : z + Z ≤ R.slots)
    (hsz : ls.size = c.maxLocals) (hdg : decode (rz_by i) pc = .ok (.invokespecial idx, 3)) {st : List Value} (hcs : (st.map fun v => v.category).sum ≤ 8) (hp : rz_hp G h H)
    (hk : ∀ (o : Outcome) (t : State) (Lc : List Loc), rz_Q G r o t → (∀ q ∈ Lc, rz_n0 G ≤ q.base) → match o with
      | .returned v => W p l e R s m args below meth c t.heap (locs ++ Lc) (k + r.2.2.1) (z + r.2.2.2) Q (F0 m (pc + 3) ls (v.toList ++ st))
      | .threw x => vx_W p l e R s m args below meth c t.heap (locs ++ Lc) (k + r.2.2.1) (z + r.2.2.2) Q (F0 m pc ls st) x) :
    W p l e R s m args below meth c H locs k z Q (F0 m pc ls (vs.reverse ++ .ref b :: st)) := by
  intro T hT X
  have hts := rz_Ct C
  have hpl : e.platform.magicAccessors = ({} : Platform).magicAccessors := by rw [X.admits.platform]
  have hdg' : decode c.code pc = .ok (.invokespecial idx, 3) := by rw [C.2.1]; exact hdg
  have hcw' := hts _ hcw
  rw [hret] at hcw'
  have hlen : ∀ sig, parseMethodDescriptor (rz_y a).desc = some sig → vs.length = sig.parameters.length := fun sig hs => by rw [hvs]; exact (hpn sig hs).symm
  rcases hln with hln | ⟨host, hln⟩
  · obtain ⟨mk, methM, cM, kP, vm₁, hnamed, hmethM, hcodeM, -, hlocalsM, -, hkP, -, hW₁, hstep₁⟩ := Steps.initColdArgs (e := e) X.here C.1 X.warmed hpl (rz_Co C) hin hm.2.2.2.2.1 (hts _ hln) (hts _ hins) hcw' (f := F0 m pc ls (vs.reverse ++ .ref b :: st)) rfl hlen rfl hdg'
    have X₁ := X.noted hW₁
    obtain ⟨t, a1, b1⟩ := rz_core (as := []) X₁ hT C hm hM hfr hlo hkc hzs hsz hdg' hcs (X₁.named hnamed) hp hk
    exact ⟨t, hstep₁ _ fun acts => by rw [doInvoke_state]; exact a1, b1⟩
  · obtain ⟨mk, methM, cM, kP, vm₁, hnamed, hmethM, hcodeM, -, hlocalsM, -, hkP, -, hW₁, hstep₁⟩ := Steps.initColdArgsNest (e := e) X.here C.1 X.warmed hpl (rz_Co C) hin hm.2.2.2.2.1 (hts _ hln) (hts _ hins) hcw' (f := F0 m pc ls (vs.reverse ++ .ref b :: st)) rfl hlen rfl hdg'
    have X₁ := X.noted hW₁
    obtain ⟨t, a1, b1⟩ := rz_core (as := []) X₁ hT C hm hM hfr hlo hkc hzs hsz hdg' hcs (X₁.named hnamed) hp hk
    exact ⟨t, hstep₁ _ fun acts => by rw [doInvoke_state]; exact a1, b1⟩
end
/-! Catching. -/
theorem rz_stepCatch {e : Env} {s : State} {a : Addr} {f : JFrame} {r : List Frame} {pc : Nat} {vm' : Vm} (hfind : ∀ (Q : Handler → Pre) (E : CtlPost) (d : Bool) (acts : List Action), wp (findHandler f a) Q E e d acts s ↔ Q (.found pc) d acts (s.setVm vm')) :
    (stepThrowing e s a (.java f :: r)).Is ((s.setVm vm').setFrames (.java { f with pc := pc, stack := [.ref a] } :: r)) [] := by
  simp only [stepThrowing, searchFrame, vmDo]
  generalize hr : Sem.go _ e false [] s = res
  obtain ⟨as, rfl, ha⟩ := Sem.eq_ok_of hr (a := Handler.found pc) (s' := s.setVm vm') (acts' := []) (by simp [hfind _ _ _ _])
  exact ⟨rfl, ha⟩
theorem rz_caught {tb : Tables} {e : Env} {s target : State} {g : JFrame} {c : Code} {below : List Frame} {a : Addr} (h : At s g.method c below) {pc : Nat} {vm' : Vm} (hfind : ∀ (Q : Handler → Pre) (E : CtlPost) (d : Bool) (acts : List Action), wp (findHandler g a) Q E e d acts ((s.setTop g).pushFrame (.throwing a)) ↔ Q (.found pc) d acts (((s.setTop g).pushFrame (.throwing a)).setVm vm'))
    (hrest : Steps tb e below ((s.setVm vm').setTop { g with pc := pc, stack := [.ref a] }) target) :
    Steps tb e below ((s.setTop g).pushFrame (.throwing a)) target := by
  obtain ⟨hgo, hw⟩ := h.throwing a
  refine Steps.head hgo hw ?_
  rw [stepThread_throwing (frames_entered h.top _), (rz_stepCatch (s := (s.setTop g).pushFrame (.throwing a)) hfind).1]
  obtain ⟨g₀, hg⟩ := Option.isSome_iff_exists.mp h.top
  obtain ⟨r, hr⟩ := State.topJava?_eq_some.mp hg
  have hr' : (s.setVm vm').frames = .java g₀ :: r := hr
  rw [State.setTop_of_frames _ hr'] at hrest
  have e1 : (((s.setTop g).pushFrame (.throwing a)).setVm vm').setFrames (.java { g with pc := pc, stack := [.ref a] } :: s.frames.tail) = (s.setVm vm').setFrames (.java { g with pc := pc, stack := [.ref a] } :: r) := by
    rw [State.pushFrame, State.setTop_of_frames _ hr, State.setFrames_setFrames, hr]
    show ((s.setVm vm').setFrames _).setFrames _ = _
    rw [State.setFrames_setFrames]
    rfl
  rw [e1]
  exact hrest
