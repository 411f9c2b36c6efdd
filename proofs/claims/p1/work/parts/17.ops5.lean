/-! Arrays of references made, references stored, Object's constructor, the ends of a method. -/
section
variable {G : rz_G} {B : rz_B} {i nL : Nat} {p : Program} {l : Launch} {e : Env} {R : Room} {s : State} {m : MethodId} {args : Array Value} {below : List Frame} {meth : Method} {c : Code}
variable {pc : Nat} {L : List (Nat × rz_V)} {S : List rz_V} {h : List rz_E} {k z : Nat} {Q : State → Prop} {H : Heap} {locs : List Loc} {ls : Array Slot} {rest : List Value} {cc : ByteArray}
theorem rz_o_anew (C : rz_C G B i p l s m args meth c) {x : rz_V} {a idx : Nat} (hd : decode (rz_by i) pc = .ok (.anewarray idx, 3)) (ha : a < 12) (hak : rz_ak (a + 4) = true) (hln : Cond.classLink (rz_cn (rz_mo i)) idx (rz_cn a) ∈ rz_TS) (hov : Cond.arrayOver (.object (rz_cn a)) ∈ rz_TS) (hx : rz_k x = true) (h0 : 0 ≤ x.2) (h1 : x.2 ≤ 100000) (hk : k + 1 ≤ R.cells) (hz : z + x.2.toNat ≤ R.slots) (kk : rz_Wj G nL p l e R s m args below meth c Q (pc + 3) L ((4, (h.length : Int)) :: S) (h ++ [(a + 4, x.2.toNat, [], [])]) (k + 1) (z + x.2.toNat)) : rz_Wj G nL p l e R s m args below meth c Q pc L (x :: S) h k z := by
  intro H locs ls st hl hs hp hf
  obtain ⟨w, st, rfl, h2, hs1⟩ := rz_skc hs
  obtain ⟨y, rfl, hy⟩ := rz_vk hx h2
  obtain ⟨q1, q2⟩ := rz_clamp hy h0
  have hra := ((rz_Cw C).2.1 (a + 4) hak).2
  rw [rz_akty _ (by omega) hak (by omega), show a + 4 - 4 = a by omega] at hra
  obtain ⟨kA', comp', r1, r2, r3, r4⟩ := hra
  refine W.anew C.1 C.2.1 (rz_Co C) (rz_Ct C _ hln) (rz_Ct C _ hov) rfl hd rfl q1 (by rw [q2]; omega) hk (by rw [q2]; exact hz) fun cA kA comp f1 f2 f3 f4 => ?_
  have hcA : cA = rz_a G (a + 4) := Option.some.inj (f1.symm.trans r4)
  rw [q2]
  refine kk _ locs ls _ hl ⟨?_, hs1⟩ (rz_hnew hp (cell := { cls := cA, slots := Array.replicate x.2.toNat .null, vm := .none }) (by simp) (by simp) (fun q hq => by rw [Array.getElem?_push, if_neg (Nat.ne_of_lt hq)]) ⟨rfl, Or.inr (Or.inr ⟨by simp, by show a + 4 < 16; omega, hcA, by simp, fun j hj => ⟨.null, by rw [Array.getElem?_replicate, if_pos hj], ?_⟩⟩)⟩) hf
  · show Value.ref H.size = Value.ref _
    rw [hp.1]; simp
  · have hb1 : Nat.beq (a + 4) 1 = false := by rw [Bool.eq_false_iff]; intro q; have := Nat.eq_of_beq_eq_true q; omega
    have hb2 : Nat.beq (a + 4) 2 = false := by rw [Bool.eq_false_iff]; intro q; have := Nat.eq_of_beq_eq_true q; omega
    have hb3 : Nat.beq (a + 4) 3 = false := by rw [Bool.eq_false_iff]; intro q; have := Nat.eq_of_beq_eq_true q; omega
    have : rz_ael (a + 4, x.2.toNat, [], []) j = (5, 0) := by simp [rz_ael, rz_lk, rz_dv, hb1, hb2, hb3]
    rw [this]
    rfl
theorem rz_o_aastore (C : rz_C G B i p l s m args meth c) {x ix v : rz_V} {e1 : rz_E} {h' : List rz_E} (hcl : rz_clOK e1.2.1) (hd : decode (rz_by i) pc = .ok (.aastore, 1)) (hc : rz_cell h v = some e1) (h0 : Nat.beq e1.1 0 = true) (h12 : e1.2.1 < 12) (hak : rz_ak (e1.2.1 + 4) = true) (hv : rz_as h (rz_is (e1.2.1 + 4)) v ix x = some h') (kk : rz_Wj G nL p l e R s m args below meth c Q (pc + 1) L S h' k z) : rz_Wj G nL p l e R s m args below meth c Q pc L (v :: ix :: x :: S) h k z := by
  intro H locs ls st hl hs hp hf
  obtain ⟨w0, st, rfl, h1, hs0⟩ := rz_skc hs
  obtain ⟨w, st, rfl, h2, hs1⟩ := rz_skc hs0
  obtain ⟨w2, st, rfl, h3, hs2⟩ := rz_skc hs1
  obtain ⟨rfl, -, cv, v1, v2⟩ := rz_cellat hp hc h1
  obtain ⟨d1, d2, d3⟩ := rz_cello v2 (Nat.eq_of_beq_eq_true h0)
  obtain ⟨e0, cell, j, b1, rfl, rfl, g1, g2, g3, g4, g5⟩ := rz_ass hv hp h3 h2 (fun n q => by cases Nat.eq_of_beq_eq_true q; omega)
  have ee := Nat.eq_of_beq_eq_true b1
  have hra := ((rz_Cw C).2.1 (e1.2.1 + 4) hak).2
  rw [rz_akty _ (by omega) hak (by omega), show e1.2.1 + 4 - 4 = e1.2.1 by omega] at hra
  obtain ⟨kA, comp, r1, r2, r3, r4⟩ := hra
  have hcls := ((rz_Cw C).1.1 _ _ hcl.1).2
  have hcomp : comp = (rz_D G).1 e1.2.1 := Option.some.inj (r3.symm.trans hcls.1)
  subst hcomp
  obtain ⟨kC, hkC, -⟩ := id hcls.2
  exact W.aast C.1 C.2.1 g1 (fun q hq => by rw [g2] at hq; cases hq) (rz_vmk g2) (by rw [g3, ee]; exact r1) r2 rfl hkC ⟨fun q => g4 (Or.inl q), Nat.not_le.mp (fun q => g4 (Or.inr q))⟩ v1 (fun q hq => by rw [d1] at hq; cases hq) (by rw [d2]; exact hkC) (by rw [d2]; exact va_assign hcls) rfl rfl hd (fun H' q1 q2 q3 => kk H' _ ls _ hl hs2 (g5 H' _ h1 q1 q2 q3) (rz_lapp (hf := hf) (by omega)))
theorem rz_o_objinit (C : rz_C G B i p l s m args meth c) (hnl : nL = rz_nL i) {x : rz_V} {idx : Nat} (hd : decode (rz_by i) pc = .ok (.invokespecial idx, 3)) (hln : Cond.methodLink (rz_cn (rz_mo i)) idx Lib.objectInit ∈ rz_TS) (hi : Cond.instanceMethod Lib.objectInit ∈ rz_TS) (hcw : Cond.code Lib.objectInit ⟨#[0xb1]⟩ 1 none ∈ rz_TS) (hx : Nat.beq x.1 4 = true) (hcs : rz_cats S ≤ 8) (hfr : 1 ≤ R.frames) (hlo : 20 ≤ R.locals) (kk : rz_Wj G nL p l e R s m args below meth c Q (pc + 3) L S h k z) : rz_Wj G nL p l e R s m args below meth c Q pc L (x :: S) h k z := by
  intro H locs ls st hl hs hp hf
  obtain ⟨w, st, rfl, h2, hs1⟩ := rz_skc hs
  cases rz_v4 hx h2
  have hsz : ls.size = c.maxLocals := by
    obtain ⟨lv, q1, -⟩ := hl
    rw [q1.1, hnl, C.2.2.2.1]
  exact W.objInit C.1 C.2.1 (rz_Co C) (rz_Ct C _ hln) (rz_Ct C _ hi) (rz_Ct C _ hcw) rfl hsz rfl hd hfr (by show 2 * 0 + _ + 12 ≤ _; rw [rz_skcat hs1]; omega) (kk H locs ls _ hl hs1 hp hf)
theorem rz_toMQ {Qc : Array Value → State → Outcome → State → Prop} {Qd : Outcome → State → Prop} {g : JFrame} {mc ms : Nat} {fr : Addr → Prop} (hq : ∀ o t, Qc args s o t → Qd o t) (kk : W p l e R s m args below meth c H locs k z (MQ below Qc args s mc ms fr) g) : W p l e R s m args below meth c H locs k z (rz_MQ below Qd s mc ms fr) g := by
  intro T hT X
  obtain ⟨t, a1, o, b1, b2, b3, L1, b4, b5⟩ := kk T hT X
  exact ⟨t, a1, o, b1, b2, hq _ _ b3, L1, b4.2, b5⟩
theorem rz_o_ireturn (C : rz_C G B i p l s m args meth c) {v : rz_V} (hd : decode (rz_by i) pc = .ok (.ireturn, 1)) (hI : rz_isI v = true) (hr : rz_ret i = some .int ∨ (rz_ret i = some .boolean ∧ rz_b01 v = true)) : rz_Wj G nL p l e R s m args below meth c (rz_MQ below (rz_Q G ((1, v), h, k, z)) s k z (rz_fr G)) pc L [v] h k z := by
  intro H locs ls st hl hs hp hf
  obtain ⟨w, st, rfl, h2, hs1⟩ := rz_skc hs
  cases rz_sk0 hs1
  obtain ⟨x, rfl⟩ := rz_vI hI h2
  refine rz_toMQ (Qc := fun _ _ o t => rz_Q G ((1, v), h, k, z) o t) (fun o t q => q) ?_
  rcases hr with hr | ⟨hr, hb⟩
  · exact W.iret C.1 C.2.1 (by rw [C.2.2.1]; exact hr) (fun t ht _ => ⟨by rw [ht]; exact hp, _, rfl, h2⟩) hf hd C.2.2.2.2.2.2.1
  · obtain ⟨y, hy, hy2⟩ := rz_b01s hb h2
    cases hy
    exact W.zret C.1 C.2.1 (by rw [C.2.2.1]; exact hr) (rz_nb hy2) (fun t ht _ => ⟨by rw [ht]; exact hp, _, rfl, h2⟩) hf hd C.2.2.2.2.2.2.1
theorem rz_o_lreturn (C : rz_C G B i p l s m args meth c) {v : rz_V} (hd : decode (rz_by i) pc = .ok (.lreturn, 1)) (hI : rz_isL v = true) (hr : rz_ret i = some .long) : rz_Wj G nL p l e R s m args below meth c (rz_MQ below (rz_Q G ((1, v), h, k, z)) s k z (rz_fr G)) pc L [v] h k z := by
  intro H locs ls st hl hs hp hf
  obtain ⟨w, st, rfl, h2, hs1⟩ := rz_skc hs
  cases rz_sk0 hs1
  obtain ⟨x, rfl⟩ := rz_vL hI h2
  refine rz_toMQ (Qc := fun _ _ o t => rz_Q G ((1, v), h, k, z) o t) (fun o t q => q) ?_
  exact W.lret C.1 C.2.1 (by rw [C.2.2.1]; exact hr) (fun t ht _ => ⟨by rw [ht]; exact hp, _, rfl, h2⟩) hf hd C.2.2.2.2.2.2.1
theorem rz_o_areturn (C : rz_C G B i p l s m args meth c) {v : rz_V} {n : String} (hd : decode (rz_by i) pc = .ok (.areturn, 1)) (hI : rz_isA v = true) (hr : rz_ret i = some (.object n)) : rz_Wj G nL p l e R s m args below meth c (rz_MQ below (rz_Q G ((1, v), h, k, z)) s k z (rz_fr G)) pc L [v] h k z := by
  intro H locs ls st hl hs hp hf
  obtain ⟨w, st, rfl, h2, hs1⟩ := rz_skc hs
  cases rz_sk0 hs1
  refine rz_toMQ (Qc := fun _ _ o t => rz_Q G ((1, v), h, k, z) o t) (fun o t q => q) ?_
  exact W.aret C.1 C.2.1 (by rw [C.2.2.1]; exact hr) (Or.inl ⟨n, rfl⟩) (rz_vA hI h2) (fun t ht _ => ⟨by rw [ht]; exact hp, _, rfl, h2⟩) hf hd C.2.2.2.2.2.2.1
theorem rz_o_return (C : rz_C G B i p l s m args meth c) (hd : decode (rz_by i) pc = .ok (.return_, 1)) (hr : rz_ret i = none) : rz_Wj G nL p l e R s m args below meth c (rz_MQ below (rz_Q G ((0, (0, 0)), h, k, z)) s k z (rz_fr G)) pc L [] h k z := by
  intro H locs ls st hl hs hp hf
  cases rz_sk0 hs
  refine rz_toMQ (Qc := fun _ _ o t => rz_Q G ((0, (0, 0)), h, k, z) o t) (fun o t q => q) ?_
  exact W.vret C.1 C.2.1 (by rw [C.2.2.1]; exact hr) (fun t ht _ => ⟨by rw [ht]; exact hp, rfl⟩) hf hd C.2.2.2.2.2.2.1
end
