/-! The three calls, in the small machine's words. -/
section
variable {G : rz_G} {B : rz_B} {i nL : Nat} {p : Program} {l : Launch} {e : Env} {R : Room} {s : State} {m : MethodId} {args : Array Value} {below : List Frame} {meth : Method} {c : Code}
variable {pc : Nat} {L : List (Nat × rz_V)} {S : List rz_V} {h : List rz_E} {k z : Nat} {Q : State → Prop}
/-- what is to hold behind the call -/
def rz_Aft (G : rz_G) (nL : Nat) (p : Program) (l : Launch) (e : Env) (R : Room) (s : State) (m : MethodId) (args : Array Value) (below : List Frame) (meth : Method) (c : Code) (Q : State → Prop) (pc : Nat) (L : List (Nat × rz_V)) (S : List rz_V) (k z : Nat) (r : rz_R) : Prop :=
  ∀ (locs : List Loc) (ls : Array Slot) (st : List Value), rz_loc G nL L ls → rz_sk G S st → (∀ q ∈ locs, rz_n0 G ≤ q.base) → ∀ (o : Outcome) (t : State) (Lc : List Loc), rz_Q G r o t → (∀ q ∈ Lc, rz_n0 G ≤ q.base) → match o with
    | .returned v => W p l e R s m args below meth c t.heap (locs ++ Lc) (k + r.2.2.1) (z + r.2.2.2) Q (F0 m (pc + 3) ls (v.toList ++ st))
    | .threw x => vx_W p l e R s m args below meth c t.heap (locs ++ Lc) (k + r.2.2.1) (z + r.2.2.2) Q (F0 m pc ls st) x
theorem rz_lapp2 {locs Lc : List Loc} (h1 : ∀ q ∈ locs, rz_n0 G ≤ q.base) (h2 : ∀ q ∈ Lc, rz_n0 G ≤ q.base) : ∀ q ∈ locs ++ Lc, rz_n0 G ≤ q.base := fun q hq => (List.mem_append.mp hq).elim (h1 q) (h2 q)
theorem rz_aft0 {v : rz_V} {h' : List rz_E} {k' z' : Nat} (kk : rz_Wj G nL p l e R s m args below meth c Q (pc + 3) L S h' (k + k') (z + z')) : rz_Aft G nL p l e R s m args below meth c Q pc L S k z ((0, v), h', k', z') := by
  intro locs ls st hl hs hf o t Lc hq hL
  obtain ⟨hp, ho⟩ := hq
  have ho : o = .returned none := ho
  subst ho
  exact kk _ _ ls st hl hs hp (rz_lapp2 hf hL)
theorem rz_aft1 {v : rz_V} {h' : List rz_E} {k' z' : Nat} (kk : rz_Wj G nL p l e R s m args below meth c Q (pc + 3) L (v :: S) h' (k + k') (z + z')) : rz_Aft G nL p l e R s m args below meth c Q pc L S k z ((1, v), h', k', z') := by
  intro locs ls st hl hs hf o t Lc hq hL
  obtain ⟨hp, w, ho, hw⟩ := hq
  subst ho
  exact kk _ _ ls (w :: st) hl ⟨hw, hs⟩ hp (rz_lapp2 hf hL)
theorem rz_thr {n : Nat} {v : rz_V} {h' : List rz_E} {k' z' : Nat} {o : Outcome} {t : State} (hq : rz_Q G ((n + 2, v), h', k', z') o t) : rz_hp G h' t.heap ∧ ∃ (q : Nat) (ce : Cell), o = .threw q ∧ rz_vr G v (.ref q) ∧ t.heap[q]? = some ce ∧ ce.vm = .none ∧ ce.cls = rz_x G ∧ ∃ (j n : Nat) (fs : List rz_V) (us : List (Nat × rz_V)), v = (4, (j : Int)) ∧ q = rz_n0 G + j ∧ rz_nth h' j = some (100, n, fs, us) := by
  obtain ⟨hp, q, j, ho, hv, hqj, n9, fs, us, hnth⟩ := hq
  obtain ⟨cell, g1, g2, g3⟩ := hp.2.2 _ _ hnth
  refine ⟨hp, q, cell, ho, ?_, by rw [hqj]; exact g1, g2, ?_, j, n9, fs, us, hv, hqj, hnth⟩
  · rw [hv, hqj]; show Value.ref _ = Value.ref _; simp
  · rcases g3 with ⟨g, -⟩ | ⟨-, g⟩ | ⟨-, g, -⟩
    · exact absurd g (by simp)
    · exact g
    · exact absurd g (by simp)
theorem rz_aftC (C : rz_C G B i p l s m args meth c) {n t : Nat} {v : rz_V} {h' : List rz_E} {k' z' : Nat} (hln : Cond.classLink (rz_cn (rz_mo i)) 13 rz_iae ∈ rz_TS) (hca : Cond.castable rz_iae rz_iae ∈ rz_TS) (hd : rz_hd (rz_hh i) pc = some (t, 13)) (kk : rz_Wj G nL p l e R s m args below meth c Q t L [v] h' (k + k') (z + z')) : rz_Aft G nL p l e R s m args below meth c Q pc L S k z ((n + 2, v), h', k', z') := by
  intro locs ls st hl hs hf o t Lc hq hL
  obtain ⟨hp, q, ce, rfl, hv, g1, g2, g3, -⟩ := rz_thr hq
  exact rz_catchW C hln hca hd g1 g2 g3 (kk _ _ ls [.ref q] hl ⟨hv, trivial⟩ hp (rz_lapp2 hf hL))
theorem rz_aftO (C : rz_C G B i p l s m args meth c) {n : Nat} {v : rz_V} {h' : List rz_E} {k' z' : Nat} (hd : rz_hd (rz_hh i) pc = none) : rz_Aft G nL p l e R s m args below meth c (rz_MQ below (rz_Q G ((2, v), h', k + k', z + z')) s (k + k') (z + z') (rz_fr G)) pc L S k z ((n + 2, v), h', k', z') := by
  intro locs ls st hl hs hf o t Lc hq hL
  obtain ⟨hp, q, ce, rfl, hv, g1, g2, g3, j, n9, fs, us, w1, w2, w3⟩ := rz_thr hq
  refine rz_outW C hd (rz_lapp2 hf hL) (fun t2 ht2 => ⟨by rw [ht2]; exact hp, q, j, rfl, w1, w2, n9, fs, us, w3⟩)
theorem rz_o_stat (C : rz_C G B i p l s m args meth c) (hnl : nL = rz_nL i) {a idx d K Z : Nat} {as S' : List rz_V} {r : rz_R} {call : Nat → List rz_V → List rz_E → Nat → Nat → Option rz_R} (ok : rz_cOK G l d call) (hm : rz_mOK a) (hln : Cond.methodLink (rz_cn (rz_mo i)) idx (rz_y a) ∈ rz_TS) (hst : Cond.static (rz_y a) ∈ rz_TS) (hpn : ∀ sig, parseMethodDescriptor (rz_y a).desc = some sig → sig.parameters.length = rz_np a)
    (hfr : d + 9 ≤ R.frames) (hlo : 64 * d + 192 ≤ R.locals) (hRc : R.cells = K) (hRs : R.slots = Z) (hd : decode (rz_by i) pc = .ok (.invokestatic idx, 3)) (htk : rz_tk (rz_np a) [] S = some (as, S')) (hcs : rz_cats S' ≤ 8) (hkK : k ≤ K) (hzZ : z ≤ Z) (hcall : call a as h (K - k) (Z - z) = some r)
    (hA : rz_Aft G nL p l e R s m args below meth c Q pc L S' k z r) : rz_Wj G nL p l e R s m args below meth c Q pc L S h k z := by
  intro H locs ls st hl hs hp hf
  obtain ⟨us, st', rfl, hu, ha, hs'⟩ := rz_tks (G := G) (rz_np a) (av := []) htk trivial hs
  rw [List.append_nil] at ha
  have := rz_stat (Q := Q) (locs := locs) C hm hln hst hpn (vs := us.reverse) (by rw [List.length_reverse, hu]) (ok a as h _ _ r hcall _ ha) hfr hlo (by omega) (by omega) (rz_lsz C hnl hl) hd (st := st') (by rw [rz_skcat hs']; exact hcs) hp (hA locs ls st' hl hs' hf)
  rw [List.reverse_reverse] at this
  exact this
theorem rz_take1 {n : Nat} {x : rz_V} {as S' : List rz_V} {st : List Value} (htk : rz_tk n [] S = some (x :: as, S')) (hs : rz_sk G S st) : ∃ (w : Value) (vs st' : List Value), st = vs.reverse ++ w :: st' ∧ vs.length + 1 = n ∧ rz_vr G x w ∧ rz_sk G as vs ∧ rz_sk G S' st' := by
  obtain ⟨us, st', rfl, hu, ha, hs'⟩ := rz_tks (G := G) n (av := []) htk trivial hs
  rw [List.append_nil] at ha
  obtain ⟨w, vs, e1, h1, h2⟩ := rz_skc ha
  have e2 : us = vs.reverse ++ [w] := by
    have := congrArg List.reverse e1
    simpa using this
  refine ⟨w, vs, st', by rw [e2]; simp, ?_, h1, h2, hs'⟩
  rw [← hu, e2]; simp
theorem rz_o_virt (C : rz_C G B i p l s m args meth c) (hnl : nL = rz_nL i) {a idx d K Z : Nat} {x : rz_V} {as S' : List rz_V} {r : rz_R} {e0 : rz_E} {call : Nat → List rz_V → List rz_E → Nat → Nat → Option rz_R} (ok : rz_cOK G l d call) (hm : rz_mOK a) (hcl : rz_clOK (rz_mo a)) (hln : Cond.methodLink (rz_cn (rz_mo i)) idx (rz_y a) ∈ rz_TS) (hins : Cond.instanceMethod (rz_y a) ∈ rz_TS) (hsel : Cond.selects (rz_cn (rz_mo a)) (rz_y a) (rz_y a) ∈ rz_TS) (hpn : ∀ sig, parseMethodDescriptor (rz_y a).desc = some sig → sig.parameters.length + 1 = rz_np a)
    (hfr : d + 9 ≤ R.frames) (hlo : 64 * d + 192 ≤ R.locals) (hRc : R.cells = K) (hRs : R.slots = Z) (hd : decode (rz_by i) pc = .ok (.invokevirtual idx, 3)) (htk : rz_tk (rz_np a) [] S = some (x :: as, S')) (hx : rz_cell h x = some e0) (h0 : Nat.beq e0.1 0 = true) (h1 : Nat.beq e0.2.1 (rz_mo a) = true) (hcs : rz_cats S' ≤ 8) (hkK : k ≤ K) (hzZ : z ≤ Z) (hcall : call a (x :: as) h (K - k) (Z - z) = some r)
    (hA : rz_Aft G nL p l e R s m args below meth c Q pc L S' k z r) : rz_Wj G nL p l e R s m args below meth c Q pc L S h k z := by
  intro H locs ls st hl hs hp hf
  obtain ⟨w, vs, st', rfl, hu, hw, ha, hs'⟩ := rz_take1 htk hs
  obtain ⟨rfl, -, cell, g1, g2⟩ := rz_cellat hp hx hw
  obtain ⟨d1, d2, d3⟩ := rz_cello g2 (Nat.eq_of_beq_eq_true h0)
  have hfc := ((rz_Cw C).1.1 _ _ hcl.1).2.1
  exact rz_virt (Q := Q) (locs := locs) (n := vs.length) C hm hln hins hsel (fun sig hq => by have := hpn sig hq; omega) rfl g1 d1 (by rw [d2, Nat.eq_of_beq_eq_true h1]; exact hfc) (ok a (x :: as) h _ _ r hcall _ ⟨hw, ha⟩) hfr hlo (by omega) (by omega) (rz_lsz C hnl hl) hd (st := st') (by rw [rz_skcat hs']; exact hcs) hp (hA locs ls st' hl hs' hf)
theorem rz_o_spec (C : rz_C G B i p l s m args meth c) (hnl : nL = rz_nL i) {a idx d K Z : Nat} {x : rz_V} {as S' : List rz_V} {r : rz_R} {call : Nat → List rz_V → List rz_E → Nat → Nat → Option rz_R} (ok : rz_cOK G l d call) (hm : rz_mOK a) (hin : (rz_y a).name = "<init>") (hret : rz_ret a = none) (hh : rz_hh a = []) (hcw : Cond.code (rz_y a) (rz_by a) (rz_nL a) (rz_ret a) ∈ rz_TS) (hln : Cond.methodLink (rz_cn (rz_mo i)) idx (rz_y a) ∈ rz_TS ∨ ∃ host, Cond.methodLinkNest (rz_cn (rz_mo i)) idx (rz_y a) host ∈ rz_TS) (hins : Cond.instanceMethod (rz_y a) ∈ rz_TS) (hpn : ∀ sig, parseMethodDescriptor (rz_y a).desc = some sig → sig.parameters.length + 1 = rz_np a)
    (hfr : d + 9 ≤ R.frames) (hlo : 64 * d + 192 ≤ R.locals) (hRc : R.cells = K) (hRs : R.slots = Z) (hd : decode (rz_by i) pc = .ok (.invokespecial idx, 3)) (htk : rz_tk (rz_np a) [] S = some (x :: as, S')) (hx : Nat.beq x.1 4 = true) (hcs : rz_cats S' ≤ 8) (hkK : k ≤ K) (hzZ : z ≤ Z) (hcall : call a (x :: as) h (K - k) (Z - z) = some r)
    (hA : rz_Aft G nL p l e R s m args below meth c Q pc L S' k z r) : rz_Wj G nL p l e R s m args below meth c Q pc L S h k z := by
  intro H locs ls st hl hs hp hf
  obtain ⟨w, vs, st', rfl, hu, hw, ha, hs'⟩ := rz_take1 htk hs
  have ew := rz_v4 hx hw
  subst ew
  exact rz_spec (Q := Q) (locs := locs) (n := vs.length) C hm hin hret hh hcw hln hins (fun sig hq => by have := hpn sig hq; omega) rfl (ok a (x :: as) h _ _ r hcall _ ⟨hw, ha⟩) hfr hlo (by omega) (by omega) (rz_lsz C hnl hl) hd (st := st') (by rw [rz_skcat hs']; exact hcs) hp (hA locs ls st' hl hs' hf)
end
