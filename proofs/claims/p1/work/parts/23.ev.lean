/-! The evaluator of callees is right, at every depth. -/
/-- what the tables know of the throw in demand -/
def rz_StatD : Prop := (∀ w ∈ vx_atS RX10 297 rz_iae ["java/lang/RuntimeException", "java/lang/Exception"], w ∈ rz_TS) ∧ (∀ w ∈ Cond.classLink RX10 293 rz_iae :: Cond.initialized rz_iae :: vx_atS RX10 297 rz_iae ["java/lang/RuntimeException", "java/lang/Exception"], vx_ot w = true) ∧ Cond.classLink RX10 293 rz_iae ∈ rz_TS ∧ Cond.initialized rz_iae ∈ rz_TS
theorem rz_sllen : ∀ (vs : List Value), (lg_sl vs).length = (vs.map fun v => v.category).sum
  | [] => rfl
  | v :: vs => by
    have ih := rz_sllen vs
    unfold lg_sl at ih ⊢
    rw [List.flatMap_cons, List.length_append, ih, List.map_cons, List.sum_cons]
    rcases lv_cat v with e | e <;> simp [e]
section
variable {G : rz_G} {B : rz_B} {l : Launch} {K Z d a : Nat}
theorem rz_metOf (hm : rz_mOK a) (hG : rz_Gk G) (hB : rz_in G B) (htr : l.stackTraces = false) {vs : List Value} {h : List rz_E} {Qd : Outcome → State → Prop} {mc ms : Nat} {rm : Room} (hlen : (lg_sl vs).length ≤ rz_nL a)
    (body : ∀ (p : Program) (e : Env) (s : State) (m : MethodId) (below : List Frame) (meth : Method) (c : Code), rz_C G B a p l s m vs.toArray meth c → rz_hp G h s.heap → ∀ ls : Array Slot, lv_has ls (rz_nL a) (lv_args 0 vs) → W p l e rm s m vs.toArray below meth c s.heap [] 0 0 (rz_MQ below Qd s mc ms (rz_fr G)) (F0 m 0 ls [])) :
    rz_Met l (rz_y a) rz_TS rm (rz_Pc G h vs) Qd mc ms (rz_fr G) := by
  unfold rz_Met
  refine MetFree.of_bodySF (code := rz_by a) (maxLocals := rz_nL a) (ret := rz_ret a) hm.2.2.2.1 ?_ ?_
  · intro args s m h9 hn
    obtain ⟨meth, c, h1, h2, h3, h4, h5, h6, -⟩ := rz_code_at hm (atoms_spec (ws := rz_TS) h9) hn
    exact ⟨meth, c, h1, h2, h3, h4, h5, h6⟩
  · intro p e s m args below meth c s₁ B0 hml hP _
    obtain ⟨rfl, hp, hwi⟩ := hP
    have hts := atoms_spec (ws := rz_TS) B0.pre
    have X0 := Stand.of_body B0
    obtain ⟨meth', c', h1, h2, h3, h4, h5, h6, h7, h8⟩ := rz_code_at hm hts B0.named
    cases Option.some.inj (h1.symm.trans B0.method)
    cases Option.some.inj (h2.symm.trans X0.code)
    have C : rz_C G B a p l s m vs.toArray meth c := ⟨B0.exec, B0.bytes, B0.returns, hml, by rw [← hm.2.2.1]; exact findClass_of_methodNamed B0.named, hts, B0.notSynchronized, fun hq => by rw [(name_of_methodNamed B0.named B0.method).1]; exact hq, h7, hwi, hG, hB, htr⟩
    have hh0 : s₁.heap = s.heap := by rw [B0.state]; rfl
    have hl := lv_entry vs (n := rz_nL a) hlen
    have hw := body p e s m below meth c C hp _ hl
    rw [← lg_entry_eq] at hw
    obtain ⟨t, a1, o, b1, b2, b3, b4⟩ := hw s₁ hh0 X0
    exact ⟨t, o, a1, b1, b2, b3, b4⟩
theorem rz_nthlast {α : Type} (x : α) : ∀ l : List α, rz_nth (l ++ [x]) l.length = some x
  | [] => rfl
  | _ :: l => rz_nthlast x l
theorem rz_dem0 : decode (rz_by rz_dem) 0 = .ok (.iload_n 0, 1) := by decide +kernel
theorem rz_dem1 : decode (rz_by rz_dem) 1 = .ok (.ifCond .ne 14, 3) := by decide +kernel
theorem rz_dem4 : decode (rz_by rz_dem) 4 = .ok (.new 293, 3) := by decide +kernel
theorem rz_dem7 : decode (rz_by rz_dem) 7 = .ok (.dup, 1) := by decide +kernel
theorem rz_dem8 : decode (rz_by rz_dem) 8 = .ok (.ldc_w 295, 3) := by decide +kernel
theorem rz_dem11 : decode (rz_by rz_dem) 11 = .ok (.invokespecial 297, 3) := by decide +kernel
theorem rz_dem14 : decode (rz_by rz_dem) 14 = .ok (.athrow, 1) := by decide +kernel
theorem rz_demhh : rz_hh rz_dem = [] := rfl
theorem rz_demmo : rz_cn (rz_mo rz_dem) = RX10 := rfl
theorem rz_demOK (hD : rz_StatD) (hm : rz_mOK rz_dem) (hG : rz_Gk G) (htr : l.stackTraces = false) {vs : List Value} {h : List rz_E} (hv : rz_sk G [(0, 0)] vs) (hK : 1 ≤ K) (hZ : 6 ≤ Z) :
    rz_Met l (rz_y rz_dem) rz_TS (rz_rm d K Z) (rz_Pc G h vs) (rz_Q G ((2, (4, (h.length : Int))), h ++ [(100, 0, [], [])], 1, 6)) 1 6 (rz_fr G) := by
  obtain ⟨w, vs', rfl, ⟨x, rfl, hx⟩, hv'⟩ := rz_skc hv
  cases rz_sk0 hv'
  have hx0 : x = 0 := rz_int_eq hx
  subst hx0
  refine rz_metOf (B := []) hm hG (fun k lo hi q => by cases q) htr (Nat.le_of_ble_eq_true rfl) fun p e s m below meth c C hp ls hl => ?_
  have hl0 : ls[0]? = some (.val (.int 0)) := hl.2.2 (0, .int 0) List.mem_cons_self
  refine lv_iload_n C.1 C.2.1 rz_dem0 rfl hl0 ?_
  refine lv_if_ne (tgt := 15) C.1 C.2.1 rz_dem1 (by decide) (fun q => absurd rfl q) (fun _ => ?_)
  obtain ⟨w1, w2, w3, w4, w5, w6, sa, w7⟩ := rz_Cw C
  have hkp : ∀ a : Nat, a < (rz_H0 G).size → ¬ rz_n0 G ≤ a → s.heap[a]? = (rz_H0 G)[a]? := fun a _ h2 => hp.2.1 a (by omega)
  have hown : s.vm.findClass RX10 = some m.cls := rz_Co C
  refine rz_throwSW (A := fun q => rz_n0 G ≤ q) C.1 C.2.1 htr (own := RX10) (cls := rz_iae) (names := ["java/lang/RuntimeException", "java/lang/Exception"]) (ik := 293) (is := 295) (ic := 297) hown (by decide +kernel) (by decide +kernel) (rz_Ct C _ hD.2.2.1) (rz_Ct C _ hD.2.2.2) w7 (fun w hw => rz_Ct C _ (hD.1 w hw)) hD.2.1 (w5.kept hkp) (w6.kept hkp) va_S.rf (by rw [hl.1, C.2.2.2.1]) rz_dem4 rz_dem7 rz_dem8 rz_dem11 rz_dem14
    (by rw [C.2.2.2.2.2.2.2.2.1, rz_demhh]; intro x hx; cases hx) (by show 2 + 3 < d + 8; omega) (by show 0 + (13 * (2 + 1) + 43) ≤ 64 * d + 128; omega) (by show 0 + 1 ≤ K; omega) (by show 0 + 6 ≤ Z; omega) C.2.2.2.2.2.2.1 (fun t ce z1 z2 z3 z4 z5 => ?_) (fun z hz => nomatch hz) (Nat.le_refl _) (Nat.le_refl _)
  have ecl : ce.cls = rz_x G := Option.some.inj (z5.symm.trans w4)
  refine ⟨rz_hnew hp z3 z1 z2 ⟨z4, Or.inr (Or.inl ⟨rfl, ecl⟩)⟩, s.heap.size, h.length, rfl, rfl, hp.1, 0, [], [], rz_nthlast _ h⟩
theorem rz_evOK (hst : rz_Stat) (hD : rz_StatD) (hG : rz_Gk G) (hB : rz_in G B) (htr : l.stackTraces = false) : ∀ d, rz_cOK G l d (rz_ev B d)
  | 0 => fun a as h K Z r hr => by cases hr
  | d + 1 => fun a as h K Z r hr vs hv => by
    have ih := rz_evOK hst hD hG hB htr d
    unfold rz_ev at hr
    cases hdm : Nat.beq a rz_dem && decide (as = [(0, 0)]) with
    | true =>
      simp only [hdm, cond_true] at hr
      obtain ⟨h1, hr⟩ := rz_bif hr
      cases hr
      simp only [Bool.and_eq_true, decide_eq_true_eq] at hdm h1
      obtain ⟨q1, rfl⟩ := hdm
      cases Nat.eq_of_beq_eq_true q1
      exact rz_demOK hD (hst.2.2.2 rz_dem (by decide) (by decide)) hG htr hv (Nat.ble_eq.mp h1.1) (Nat.ble_eq.mp h1.2)
    | false =>
      simp only [hdm, cond_false] at hr
      obtain ⟨h1, hr⟩ := rz_bif hr
      simp only [Bool.and_eq_true] at h1
      have hm := hst.2.2.2 a (Nat.blt_eq.mp h1.1) (Nat.blt_eq.mp h1.2.1)
      refine rz_metOf hm hG hB htr (by rw [rz_sllen, rz_skcat hv]; exact Nat.ble_eq.mp h1.2.2) fun p e s m below meth c C hp ls hl => ?_
      exact rz_runOK hst C ih (R := rz_rm (d + 1) K Z) (by show d + 9 ≤ d + 1 + 8; omega) (by show 64 * d + 192 ≤ 64 * (d + 1) + 128; omega) rfl rfl 3000 _ hr s.heap [] ls [] ⟨_, hl, rz_sk_args hv⟩ trivial hp (fun q hq => nomatch hq)
end
