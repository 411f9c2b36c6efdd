/-! The claim. -/
theorem rz_hStat : rz_Stat := ⟨fun m pc q hq => by
  obtain ⟨ins, a, b⟩ := q
  exact rz_okS (rz_codeS hq).1 (rz_okAll hq), rz_clAll, rz_hcast, fun a h0 h1 => (rz_mF h0 h1).1⟩
set_option maxRecDepth 100000 in
theorem rz_atB : (vx_atS RX10 297 rz_iae ["java/lang/RuntimeException", "java/lang/Exception"]).all (fun w => decide (w ∈ lw_tbl) && (rz_gw w && vx_ot w)) = true := by decide +kernel
theorem rz_hStatD : rz_StatD := by
  have hAt := List.all_eq_true.mp rz_atB
  refine ⟨fun w hw => ?_, fun w hw => ?_, rz_inTS (i := 415) (by decide +kernel) rfl, rz_inTS (i := 78) (by decide +kernel) rfl⟩
  · have h := hAt w hw
    simp only [Bool.and_eq_true, decide_eq_true_eq] at h
    exact List.mem_filter.mpr ⟨h.1, h.2.1⟩
  · rcases List.mem_cons.mp hw with rfl | hw
    · rfl
    · rcases List.mem_cons.mp hw with rfl | hw
      · rfl
      · have h := hAt w hw
        simp only [Bool.and_eq_true, decide_eq_true_eq] at h
        exact h.2.2
theorem rz_hStatA : rz_StatA := ⟨⟨rz_iAI, rz_iAL, rz_iAZ⟩, rz_iAO, List.mem_of_getElem? (i := 442) (by decide +kernel), List.mem_of_getElem? (i := 444) (by decide +kernel), List.mem_of_getElem? (i := 75) (by decide +kernel), List.mem_of_getElem? (i := 455) (by decide +kernel), List.mem_of_getElem? (i := 416) (by decide +kernel)⟩
theorem rz_eqBs : ∀ {a b : rz_B}, rz_eqB a b = true → a = b
  | [], [], _ => rfl
  | [], _ :: _, h => by cases h
  | _ :: _, [], h => by cases h
  | a :: l, b :: m, h => by
    simp only [rz_eqB, Bool.and_eq_true, decide_eq_true_eq] at h
    obtain ⟨a1, a2⟩ := a
    obtain ⟨b1, b2⟩ := b
    obtain ⟨h1, h2, h3⟩ := h
    dsimp only at h1 h2
    rw [h1, h2, rz_eqBs h3]
theorem rz_allL {G : rz_G} {P : rz_B → Bool} {Ls : List rz_B} {T : List (Nat × Int)} {b : rz_B} (h1 : ∀ B ∈ Ls, P B = true) (h2 : rz_all (fun B => Ls.any (rz_eqB B)) T b = true) (hb : rz_in G b) : ∃ B, P B = true ∧ rz_in G B := by
  obtain ⟨B, g1, g2⟩ := rz_allOK h2 hb
  obtain ⟨B', g3, g4⟩ := List.any_eq_true.mp g1
  exact ⟨B, by rw [rz_eqBs g4]; exact h1 B' g3, g2⟩
theorem rz_i32b (x : Int32) : -2147483648 ≤ x.toInt ∧ x.toInt ≤ 2147483647 := by
  have h1 := Int32.le_toInt x
  have h2 := Int32.toInt_lt x
  omega
theorem rz_and31 (x : Int32) : 0 ≤ (x &&& 31).toInt ∧ (x &&& 31).toInt ≤ 31 := by
  obtain ⟨j, hj, e⟩ := pk_andE x (m := 31) 5 (by decide +kernel)
  rw [e, nI_toInt (by omega)]
  omega
def rz_box (l8 h8 l9 h9 : Int) : rz_B := [(-2147483648, 2147483647), (-2147483648, 2147483647), (-2147483648, 2147483647), (-2147483648, 2147483647), (-2147483648, 2147483647), (-2147483648, 2147483647), (-2147483648, 2147483647), (-2147483648, 2147483647), (l8, h8), (l9, h9)]
theorem rz_bxIn {G : rz_G} {l8 h8 l9 h9 : Int} (a1 : l8 ≤ (rz_p G 8).toInt) (a2 : (rz_p G 8).toInt ≤ h8) (a3 : l9 ≤ (rz_p G 9).toInt) (a4 : (rz_p G 9).toInt ≤ h9) : rz_in G (rz_box l8 h8 l9 h9) :=
  rz_inOf ⟨rz_i32b _, rz_i32b _, rz_i32b _, rz_i32b _, rz_i32b _, rz_i32b _, rz_i32b _, rz_i32b _, ⟨a1, a2⟩, ⟨a3, a4⟩, trivial⟩
theorem rz_p8 {G : rz_G} {L : Nat} (hL : L ≤ 8) (h : rz_p G 8 = Int32.ofNat L) : (rz_p G 8).toInt = (L : Int) := by
  rw [h]; exact toInt_of rfl (by omega)
theorem rz_hs1 (G : rz_G) (hG : rz_Gk G) (hL : ∃ L : Nat, L ≤ 8 ∧ rz_p G 8 = Int32.ofNat L) : ∃ B, rz_seg 19 rz_f0 rz_f1 B = true ∧ rz_in G B := by
  obtain ⟨L, hL, h8⟩ := hL
  have e8 := rz_p8 hL h8
  have h9 : 0 ≤ (rz_p G 9).toInt ∧ (rz_p G 9).toInt ≤ 31 := by rw [hG.2.2]; exact rz_and31 _
  by_cases h0 : L = 0
  · exact rz_allL ry_pk0 ry_sk0 (rz_bxIn (l8 := 0) (h8 := 0) (by omega) (by omega) h9.1 h9.2)
  · exact rz_allL ry_pk1 ry_sk1 (rz_bxIn (l8 := 1) (h8 := 8) (by omega) (by omega) h9.1 h9.2)
theorem rz_hs2 (G : rz_G) (hG : rz_Gk G) (hL : ∃ L : Nat, L ≤ 8 ∧ rz_p G 8 = Int32.ofNat L) : ∃ B, rz_end rz_f1 B = true ∧ rz_in G B := by
  obtain ⟨L, hL, h8⟩ := hL
  have e8 := rz_p8 hL h8
  have h9 : 0 ≤ (rz_p G 9).toInt ∧ (rz_p G 9).toInt ≤ 31 := by rw [hG.2.2]; exact rz_and31 _
  by_cases h0 : L ≤ 7
  · exact rz_allL ry_pke ry_ske (rz_bxIn (l8 := 0) (h8 := 7) (by omega) (by omega) h9.1 h9.2)
  · have bx : ∀ (B : rz_B) (l9 u9 : Int), rz_box 8 8 l9 u9 = B → l9 ≤ (rz_p G 9).toInt → (rz_p G 9).toInt ≤ u9 → rz_in G B := fun B l9 u9 e a b => by subst e; exact rz_bxIn (by omega) (by omega) a b
    by_cases h21 : 21 ≤ (rz_p G 9).toInt
    · exact rz_allL ry_pc21 ry_sc21 (bx ry_bc21 21 31 rfl h21 h9.2)
    · have hv : (rz_p G 9).toInt = 0 ∨ (rz_p G 9).toInt = 1 ∨ (rz_p G 9).toInt = 2 ∨ (rz_p G 9).toInt = 3 ∨ (rz_p G 9).toInt = 4 ∨ (rz_p G 9).toInt = 5 ∨ (rz_p G 9).toInt = 6 ∨ (rz_p G 9).toInt = 7 ∨ (rz_p G 9).toInt = 8 ∨ (rz_p G 9).toInt = 9 ∨ (rz_p G 9).toInt = 10 ∨ (rz_p G 9).toInt = 11 ∨ (rz_p G 9).toInt = 12 ∨ (rz_p G 9).toInt = 13 ∨ (rz_p G 9).toInt = 14 ∨ (rz_p G 9).toInt = 15 ∨ (rz_p G 9).toInt = 16 ∨ (rz_p G 9).toInt = 17 ∨ (rz_p G 9).toInt = 18 ∨ (rz_p G 9).toInt = 19 ∨ (rz_p G 9).toInt = 20 := by omega
      rcases hv with h | h | h | h | h | h | h | h | h | h | h | h | h | h | h | h | h | h | h | h | h
      · exact rz_allL ry_pc0 ry_sc0 (bx ry_bc0 0 0 rfl (by omega) (by omega))
      · exact rz_allL ry_pc1 ry_sc1 (bx ry_bc1 1 1 rfl (by omega) (by omega))
      · exact rz_allL ry_pc2 ry_sc2 (bx ry_bc2 2 2 rfl (by omega) (by omega))
      · exact rz_allL ry_pc3 ry_sc3 (bx ry_bc3 3 3 rfl (by omega) (by omega))
      · exact rz_allL ry_pc4 ry_sc4 (bx ry_bc4 4 4 rfl (by omega) (by omega))
      · exact rz_allL ry_pc5 ry_sc5 (bx ry_bc5 5 5 rfl (by omega) (by omega))
      · exact rz_allL ry_pc6 ry_sc6 (bx ry_bc6 6 6 rfl (by omega) (by omega))
      · exact rz_allL ry_pc7 ry_sc7 (bx ry_bc7 7 7 rfl (by omega) (by omega))
      · exact rz_allL ry_pc8 ry_sc8 (bx ry_bc8 8 8 rfl (by omega) (by omega))
      · exact rz_allL ry_pc9 ry_sc9 (bx ry_bc9 9 9 rfl (by omega) (by omega))
      · exact rz_allL ry_pc10 ry_sc10 (bx ry_bc10 10 10 rfl (by omega) (by omega))
      · exact rz_allL ry_pc11 ry_sc11 (bx ry_bc11 11 11 rfl (by omega) (by omega))
      · exact rz_allL ry_pc12 ry_sc12 (bx ry_bc12 12 12 rfl (by omega) (by omega))
      · exact rz_allL ry_pc13 ry_sc13 (bx ry_bc13 13 13 rfl (by omega) (by omega))
      · exact rz_allL ry_pc14 ry_sc14 (bx ry_bc14 14 14 rfl (by omega) (by omega))
      · exact rz_allL ry_pc15 ry_sc15 (bx ry_bc15 15 15 rfl (by omega) (by omega))
      · exact rz_allL ry_pc16 ry_sc16 (bx ry_bc16 16 16 rfl (by omega) (by omega))
      · exact rz_allL ry_pc17 ry_sc17 (bx ry_bc17 17 17 rfl (by omega) (by omega))
      · exact rz_allL ry_pc18 ry_sc18 (bx ry_bc18 18 18 rfl (by omega) (by omega))
      · exact rz_allL ry_pc19 ry_sc19 (bx ry_bc19 19 19 rfl (by omega) (by omega))
      · exact rz_allL ry_pc20 ry_sc20 (bx ry_bc20 20 20 rfl (by omega) (by omega))
set_option maxHeartbeats 4000000 in
theorem lw_walk (l : Launch) (htr : l.stackTraces = false) (b : Addr) (xs : List Int32) : MetFree l x (headSpec (Jvm.Cond.code x code maxLocals ret :: tables_1) room_1) (lw_P b xs) (fun _ _ _ _ _ => True) lw_Q := by
  refine MetFree.of_bodyS (code := code) (maxLocals := maxLocals) (ret := ret) (by decide) ?_ ?_
  · intro args s m h hn
    obtain ⟨meth, c, h1, h2, h3, h4, h5, h6, -, -⟩ := Cond.code_spec hn (atoms_spec (ws := Jvm.Cond.code x code maxLocals ret :: tables_1) h _ List.mem_cons_self)
    exact ⟨meth, c, h1, h2, h3, h4, h5, h6⟩
  · intro p e s m args below meth c s₁ B hml0 hP _
    obtain ⟨rfl, hx, hbd, hgv⟩ := hP
    obtain ⟨scr, harrAt, hlist, hof, hsmall⟩ := hx
    obtain ⟨hcb, hkn, -, -⟩ := State.arrayAt?_spec harrAt
    have hown : s.vm.findClass R_law = some m.cls := findClass_of_methodNamed B.named
    have hts0 : ∀ c ∈ (Jvm.Cond.code x code maxLocals ret :: tables_1), c.before #[Value.ref b] s = true := atoms_spec (ws := Jvm.Cond.code x code maxLocals ret :: tables_1) B.pre
    have hts : ∀ w ∈ lw_tbl, w.before #[Value.ref b] s = true := k2_hts_sels lw_privs (fun w hw => hts0 w (List.mem_cons_of_mem _ hw)) lw_privs_ok
    have hml : c.maxLocals = 8 := B.maxLocals_eq (hts0 _ List.mem_cons_self)
    have X₀ : Stand p l e room_1 s m #[Value.ref b] below meth c s₁ [] 0 0 := Stand.of_body B
    have het : c.exceptionTable.toList = [] := by
      obtain ⟨meth9, c9, h1, h2, -, -, -, -, h7, -⟩ := Cond.code_spec B.named (hts0 _ List.mem_cons_self)
      cases Option.some.inj (h1.symm.trans B.method)
      cases Option.some.inj (h2.symm.trans X₀.code)
      rw [Array.isEmpty_iff.mp h7]
    have hh0 : s₁.heap = s.heap := by rw [B.state]; rfl
    have hsz : scr.slots.size = xs.length := by rw [← Array.length_toList, hlist, List.length_map]
    have hval : ∀ j : Nat, j < xs.length → scr.slots[j]? = some (.int (xs.getD j 0)) := fun j hj => by
      rw [← Array.getElem?_toList, hlist]
      simp [hj]
    have hbl : b < s.heap.size := (Array.getElem?_eq_some_iff.mp hcb).1
    have hX : va_X b xs.length (fun j => xs.getD j 0) s s.heap := ⟨scr, hcb, hof, hkn, hsz, hval⟩
    have K : W p l e room_1 s m #[Value.ref b] below meth c s₁.heap [] 0 0 (lw_Z below #[Value.ref b] s) (entryFrame m ([Value.ref b] : List Value).toArray 8) := by
      rw [hh0]
      exact rz_law rz_hStat rz_hStatD rz_hStatA rz_hs1 rz_hs2 l htr hbd ⟨B.exec, B.bytes, B.returns, hml, hown, hts, hX, hbl, B.notSynchronized, hgv, het⟩
    obtain ⟨t, a1, o, b1, b2, b3⟩ := K s₁ rfl X₀
    exact ⟨t, o, a1, b1, b2, b3⟩
theorem lw_pre_spec {args : Array Value} {s : State} (h : (Jvm.Cond.and given_1 narrow_1).before args s = true) (hr : rest_1_c.before args s = true) : ∃ (b : Addr) (xs : List Int32), lw_P b xs args s := by
  have hs := flat_of_before _ h
  have hq := flat_of_before _ hr
  have hc : (Cond.count 1).before args s = true := hs _ (by decide +kernel)
  have harr : (Cond.arrayOf (.arg 0) .int).before args s = true := hs _ (by decide +kernel)
  have hle : (Cond.le (.length (.arg 0)) (.int 8)).before args s = true := hs _ (by decide +kernel)
  have hlen : (Cond.isInt (.length (.arg 0))).before args s = true := hq _ (by decide +kernel)
  have hall : (Cond.all (.arg 0) (.isInt (.elem (.arg 0) (.index 0)))).before args s = true := hq _ (by decide +kernel)
  obtain ⟨b, xs, hb, hx⟩ := State.ints_of_pre rfl harr hlen hall
  have hsm : xs.length < 2 ^ 31 := hx.choose_spec.2.2.2
  have hev : (Term.length (.arg 0)).eval args s none [] s = some (.int xs.length.toInt32) := hx.length_eval hb
  have hv := Cond.le_ints hev (show (Term.int 8).eval args s none [] s = some (.int 8) from rfl)
  have hd : xs.length.toInt32 ≤ 8 := by
    simpa [Cond.before, Cond.holds, hv] using hle
  have hN : xs.length ≤ 8 := (Int32.ofNat_le_ofNat hsm (by decide)).mp (show Int32.ofNat xs.length ≤ Int32.ofNat 8 from hd)
  exact ⟨b, xs, Cond.one_arg hc (show args[0]? = some (.ref b) from hb), hx, hN, h⟩
theorem lw_comes (l : Launch) (htr : l.stackTraces = false) : Comes l x (Jvm.Cond.code x code maxLocals ret :: tables_1) room_1 (fun tb e args s => Calls_1 tb e args s ∧ rest_1 tb e args s ∧ Pre_1 tb e args s)
    (fun _ _ args s o t => lw_Q args s o t) := by
  intro p e ha hc hk s m args below hf hfit hheap happ hpre
  obtain ⟨b, xs, hP⟩ := lw_pre_spec hpre.2.2 hpre.2.1
  obtain ⟨k, o, h1, h2, h3, hQ⟩ := lw_walk l htr b xs p e ha hc hk s m args below hf ((Spec.applies_iff_loose hf).mp happ).1 hP trivial
  exact ⟨k, o, h1, h2, h3, hQ⟩
theorem lw_frame {s t : State} {o : Outcome} {args : Array Value} (h : Framed s o t [] 600002 7302197) :
    Framed s o t (fieldLocs frame_1_writes args s ++ arrayLocs frame_1_arrays args s ++ staticLocs frame_1_statics s) 600002 7302197 := h
theorem lw_tr {l : Launch} (h : l.flags = flags0) : l.stackTraces = false := by
  unfold Launch.stackTraces
  rw [h]
  decide +kernel
theorem lw_limb (L : Cond) (hL : ∀ (args : Array Value) (s t : State), L.after args s (.returned (some (.int 1))) t = true) :
    ArmFor flags0 classFile x code maxLocals ret World_1 tables_1 room_1 Calls_1 rest_1 Pre_1
      (fun tb e a s o t => postC L tb e a s o t ∧ Framed s o t (fieldLocs frame_1_writes a s ++ arrayLocs frame_1_arrays a s ++ staticLocs frame_1_statics s) 600002 7302197) := by
  intro l hfl _ _ p e ha hc hk s m args below hf hfit hheap happ hpre
  obtain ⟨k, o, h1, h2, h3, rfl, hF⟩ := lw_comes l (lw_tr hfl) p e ha hc hk s m args below hf hfit hheap happ hpre
  exact ⟨k, _, h1, h2, h3, hL args s _, lw_frame hF⟩
theorem i_vc : Claimed_1_1 ∧ Claimed_1_2 := ⟨lw_limb limb_1_1 (fun args s t => by simp [limb_1_1, Cond.after, Cond.holds, Cond.value]), lw_limb limb_1_2 (fun args s t => Cond.after_iff.mpr (by
  first | (rw [show limb_1_2 = Cond.eq .result (.int 1) from rfl, Cond.eq_ints (x := 1) (y := 1) rfl rfl]; simp; done) | (simp [limb_1_2, Cond.value, Term.eval]; done)))⟩
