/-! The law: from its entry to its end. -/
section
variable {G : rz_G}
theorem rz_inlo {B : rz_B} {k : Nat} {c : Int} (h : rz_in G B) (hk : (rz_p G k).toInt < c) : rz_in G (rz_lo B k c) := by
  unfold rz_lo
  cases hn : rz_nth B k with
  | none => exact h
  | some q =>
    obtain ⟨lo, hi⟩ := q
    intro j l2 h2 hj
    rcases rz_nth_set hj with ⟨rfl, hq⟩ | ⟨-, hj⟩
    · cases hq
      exact ⟨(h j lo hi hn).1, by omega⟩
    · exact h j l2 h2 hj
theorem rz_inhi {B : rz_B} {k : Nat} {c : Int} (h : rz_in G B) (hk : c ≤ (rz_p G k).toInt) : rz_in G (rz_hi B k c) := by
  unfold rz_hi
  cases hn : rz_nth B k with
  | none => exact h
  | some q =>
    obtain ⟨lo, hi⟩ := q
    intro j l2 h2 hj
    rcases rz_nth_set hj with ⟨rfl, hq⟩ | ⟨-, hj⟩
    · cases hq
      exact ⟨hk, (h j lo hi hn).2⟩
    · exact h j l2 h2 hj
theorem rz_chkOK {P : rz_B → Bool} : ∀ (n : Nat) {T T' : List (Nat × Int)} {B : rz_B}, rz_chk P n T B = some T' → rz_in G B → ∃ B', P B' = true ∧ rz_in G B'
  | 0, _, _, _, h, _ => by cases h
  | _ + 1, [], _, _, h, _ => by cases h
  | n + 1, q :: T, T', B, h, hB => by
    unfold rz_chk at h
    cases e : Nat.beq q.1 99 with
    | true =>
      simp only [e, cond_true] at h
      obtain ⟨h1, -⟩ := rz_bif h
      exact ⟨B, h1, hB⟩
    | false =>
      simp only [e, cond_false] at h
      cases hc : rz_chk P n T (rz_lo B q.1 q.2) with
      | none => simp [hc] at h
      | some T1 =>
        simp only [hc] at h
        by_cases hk : (rz_p G q.1).toInt < q.2
        · exact rz_chkOK n hc (rz_inlo hB hk)
        · exact rz_chkOK n h (rz_inhi hB (by omega))
theorem rz_allOK {P : rz_B → Bool} {T : List (Nat × Int)} {B : rz_B} (h : rz_all P T B = true) (hB : rz_in G B) : ∃ B', P B' = true ∧ rz_in G B' := by
  unfold rz_all at h
  cases hc : rz_chk P 1000 T B with
  | none => simp [hc] at h
  | some T1 => exact rz_chkOK 1000 hc hB
def rz_inL (f : Nat → Int32) : Nat → rz_B → Prop
  | _, [] => True
  | k, q :: B => (q.1 ≤ (f k).toInt ∧ (f k).toInt ≤ q.2) ∧ rz_inL f (k + 1) B
theorem rz_inLn {f : Nat → Int32} : ∀ {k : Nat} {B : rz_B}, rz_inL f k B → ∀ (j : Nat) (lo hi : Int), rz_nth B j = some (lo, hi) → lo ≤ (f (k + j)).toInt ∧ (f (k + j)).toInt ≤ hi
  | _, [], _, _, _, _, h => by cases h
  | k, q :: B, h, 0, lo, hi, hj => by
    have e : q = (lo, hi) := Option.some.inj hj
    subst e
    exact h.1
  | k, q :: B, h, n + 1, lo, hi, hj => by
    have := rz_inLn (k := k + 1) (B := B) h.2 n lo hi hj
    rw [show k + (n + 1) = k + 1 + n by omega]
    exact this
theorem rz_inOf {B : rz_B} (h : rz_inL (rz_p G) 0 B) : rz_in G B := fun k lo hi hk => by
  have := rz_inLn h k lo hi hk
  rwa [Nat.zero_add] at this
end
def R_law : String := "TurnHallLaw"
def lw_P (b : Addr) (xs : List Int32) (args : Array Value) (s : State) : Prop := args = #[.ref b] ∧ s.IntsAt b xs ∧ xs.length ≤ 8 ∧ (Jvm.Cond.and given_1 narrow_1).before args s = true
def lw_Q (_ : Array Value) (s : State) (o : Outcome) (t : State) : Prop := o = .returned (some (.int 1)) ∧ Framed s o t [] 600002 7302197
def lw_Z (below : List Frame) (a : Array Value) (s : State) : State → Prop := fun t => ∃ o, t.status = .running ∧ Ended t below o ∧ lw_Q a s o t
def lw_At (p : Program) (s : State) (m : MethodId) (meth : Method) (c : Code) (b L : Nat) (xs : Nat → Int32) : Prop :=
  p.tables.exec = Jvm.exec ∧ c.code = code ∧ meth.sig.returnType = ret ∧ c.maxLocals = 8 ∧ s.vm.findClass R_law = some m.cls ∧ (∀ w ∈ lw_tbl, w.before #[Value.ref b] s = true) ∧ va_X b L xs s s.heap ∧ b < s.heap.size ∧ meth.locks = false ∧ (Jvm.Cond.and given_1 narrow_1).before #[Value.ref b] s = true ∧ c.exceptionTable.toList = []
/-- what the tables know of arrays, of the two statics, of the text, of the exception's class -/
def rz_StatA : Prop := (Cond.arrayClass .int ∈ rz_TS ∧ Cond.arrayClass .long ∈ rz_TS ∧ Cond.arrayClass .boolean ∈ rz_TS) ∧ (∀ k, rz_ak k = true → 3 < k → Cond.arrayOver (.object (rz_cn (k - 4))) ∈ rz_TS) ∧
  Cond.laysStatic Bundle.tN "UNASSIGNED_STACK" Bundle.steD ∈ lw_tbl ∧ Cond.laysStatic Bundle.tN "SUPPRESSED_SENTINEL" Bundle.listD ∈ lw_tbl ∧ Cond.initialized Bundle.tN ∈ lw_tbl ∧ Cond.stringRef RX10 295 rz_txt ∈ lw_tbl ∧ Cond.instantiable rz_iae 6 ∈ lw_tbl
theorem rz_akc {k : Nat} (h : rz_ak k = true) : k = 1 ∨ k = 2 ∨ k = 3 ∨ (3 < k ∧ k < 16) := by
  simp only [rz_ak, Bool.or_eq_true] at h
  rcases h with h | h | h | h | h | h | h | h | h <;> have := Nat.eq_of_beq_eq_true h <;> omega
theorem rz_world (hst : rz_Stat) (hA : rz_StatA) {p : Program} {s : State} {m : MethodId} {meth : Method} {c : Code} {b L : Nat} {xs : Nat → Int32} (hL : L ≤ 8) (C0 : lw_At p s m meth c b L xs) :
    ∃ G : rz_G, rz_n0 G = s.heap.size ∧ rz_b G = b ∧ rz_H0 G = s.heap ∧ (∀ k, k < 8 → rz_p G k = xs k) ∧ rz_p G 8 = Int32.ofNat L ∧ rz_p G 9 = xs 1 &&& 31 ∧ rz_WI G rz_is0 s := by
  obtain ⟨hx, hb, hr, hml, hown, hts, hX, hbl, hlocks, hgv, het⟩ := C0
  have htS : ∀ w ∈ rz_TS, w.before #[Value.ref b] s = true := fun w hw => hts w (List.mem_filter.mp hw).1
  have h1 : ∀ k, ∃ d : ClassId × (Nat → Nat), k < 12 → u_Kn s (rz_cn k) (rz_T k) (rz_N k) d.1 d.2 := by
    intro k
    by_cases hk : k < 12
    · obtain ⟨c1, c2, c3, c4, c5, c6⟩ := hst.2.1 k hk
      obtain ⟨cC, iS, hq⟩ := u_known htS c2 (htS _ c5)
      exact ⟨(cC, iS), fun _ => hq⟩
    · exact ⟨(0, fun _ => 0), fun q => absurd q hk⟩
  have h2 : ∀ k, ∃ cA : ClassId, rz_ak k = true → ArrOfT s cA (rz_aty k) ∧ va_RA s cA (rz_aty k) := by
    intro k
    by_cases hk : rz_ak k = true
    · have prim : ∀ ty : FieldType, Cond.arrayClass ty ∈ rz_TS → (∀ cA, s.vm.findClass ("[" ++ ty.toString) = some cA → va_RA s cA ty) → ∃ cA : ClassId, ArrOfT s cA ty ∧ va_RA s cA ty := by
        intro ty hw hra
        obtain ⟨cA, kA, comp, g1, g2, g3⟩ := Cond.arrayClass_spec (htS _ hw)
        exact ⟨cA, fun n z => ⟨fun k h => (by cases h), kA, g2, comp, g3⟩, hra cA g1⟩
      rcases rz_akc hk with rfl | rfl | rfl | ⟨hk3, hk16⟩
      · obtain ⟨cA, g⟩ := prim .int hA.1.1 (fun cA h => h); exact ⟨cA, fun _ => g⟩
      · obtain ⟨cA, g⟩ := prim .long hA.1.2.1 (fun cA h => h); exact ⟨cA, fun _ => g⟩
      · obtain ⟨cA, g⟩ := prim .boolean hA.1.2.2 (fun cA h => h); exact ⟨cA, fun _ => g⟩
      · obtain ⟨comp, cA, kA, g1, -, g2, g3, g4⟩ := Cond.arrayOver_spec (htS _ (hA.2.1 k hk hk3))
        refine ⟨cA, fun _ => ?_⟩
        rw [rz_akty k hk16 hk hk3]
        exact ⟨fun n z => ⟨fun k h => (by cases h), kA, g2, comp, g3⟩, kA, comp, g2, g3, g1, g4⟩
    · exact ⟨0, fun q => absurd q hk⟩
  obtain ⟨xc, kX, hxc, -⟩ := Cond.instantiable_spec (hts _ hA.2.2.2.2.2.2)
  have hs0 := flat_of_before _ hgv
  have hU0 : (Cond.isRef (.static Bundle.tN "UNASSIGNED_STACK" Bundle.steD)).before #[Value.ref b] s = true := hs0 _ (by decide +kernel)
  have hN0 : (Cond.isRef (.static Bundle.tN "SUPPRESSED_SENTINEL" Bundle.listD)).before #[Value.ref b] s = true := hs0 _ (by decide +kernel)
  have hnA : ∀ a : Nat, a < s.heap.size → ¬ s.heap.size ≤ a := fun a ha => Nat.not_le.mpr ha
  have hU := vx_Zqof (A := fun q => s.heap.size ≤ q) (hts _ hA.2.2.1) (hts _ hA.2.2.2.2.1) hU0 hnA
  have hN := vx_Zqof (A := fun q => s.heap.size ≤ q) (hts _ hA.2.2.2.1) (hts _ hA.2.2.2.2.1) hN0 hnA
  obtain ⟨cur, kcur, hcur, -⟩ := (hst.2.1 10 (by decide)).2.2.2.2.1 |> fun q => Cond.instantiable_spec (htS _ q)
  have hstr : (Cond.stringRef RX10 295 rz_txt).before #[Value.ref b] s = true := hts _ hA.2.2.2.2.2.1
  obtain ⟨k9, cf9, i9, sa, -, -, -, -, -, hsa⟩ := Cond.stringRef_spec (cls := RX10) hcur hstr
  obtain ⟨scr, x1, x2, x3, x4, x5⟩ := hX
  refine ⟨(s.heap.size, b, fun k => if k < 8 then xs k else if k = 8 then Int32.ofNat L else xs 1 &&& 31, (fun k => (Classical.choose (h1 k)).1, fun k => (Classical.choose (h1 k)).2), fun k => Classical.choose (h2 k), xc, s.heap), rfl, rfl, rfl, fun k hk => if_pos hk, rfl, rfl, ⟨fun k q hq => ?_, fun k q hq => by simp at hq⟩, fun k hk => Classical.choose_spec (h2 k) hk, ⟨L, ⟨scr, x1, x2, x3, x4, fun j hj => ?_⟩, rfl, hL⟩, hxc, hU, hN, sa, vk_R.of hstr hsa⟩
  · have hk : k < 12 := (List.getElem?_eq_some_iff.mp hq).1
    have e := Option.some.inj (hq.symm.trans (hst.2.1 k hk).1)
    subst e
    exact Classical.choose_spec (h1 k) hk
  · rw [x5 j hj]
    show _ = some (Value.int (if j < 8 then xs j else _))
    rw [if_pos (by omega)]
theorem rz_wmono {p : Program} {l : Launch} {e : Env} {R : Room} {s : State} {m : MethodId} {args : Array Value} {below : List Frame} {meth : Method} {c : Code} {G : rz_G} {nL : Nat} {Q Q' : State → Prop} (h : ∀ t, Q t → Q' t) {pc : Nat} {L : List (Nat × rz_V)} {S : List rz_V} {hh : List rz_E} {k z : Nat} (kk : rz_Wj G nL p l e R s m args below meth c Q pc L S hh k z) : rz_Wj G nL p l e R s m args below meth c Q' pc L S hh k z := by
  intro H locs ls st hl hs hp hf T hT X
  obtain ⟨t, a1, b1⟩ := kk H locs ls st hl hs hp hf T hT X
  exact ⟨t, a1, h t b1⟩
theorem rz_law (hst : rz_Stat) (hD : rz_StatD) (hA : rz_StatA) {f1 : rz_F} {n : Nat} (hs1 : ∀ G : rz_G, rz_Gk G → (∃ L : Nat, L ≤ 8 ∧ rz_p G 8 = Int32.ofNat L) → ∃ B, rz_seg n rz_f0 f1 B = true ∧ rz_in G B) (hs2 : ∀ G : rz_G, rz_Gk G → (∃ L : Nat, L ≤ 8 ∧ rz_p G 8 = Int32.ofNat L) → ∃ B, rz_end f1 B = true ∧ rz_in G B)
    {p : Program} {e : Env} {s : State} {m : MethodId} {below : List Frame} {meth : Method} {c : Code} (l : Launch) (htr : l.stackTraces = false) {b L : Nat} {xs : Nat → Int32} (hL : L ≤ 8) (C0 : lw_At p s m meth c b L xs) : W p l e room_1 s m #[Value.ref b] below meth c s.heap [] 0 0 (lw_Z below #[Value.ref b] s) (entryFrame m ([Value.ref b] : List Value).toArray 8) := by
  obtain ⟨G, g1, g2, g3, g4, g5, g6, g7⟩ := rz_world hst hA hL C0
  obtain ⟨hx, hb, hr, hml, hown, hts, hX, hbl, hlocks, hgv, het⟩ := C0
  have hG : rz_Gk G := ⟨by rw [g1, g3], by rw [g1, g2]; exact hbl, by rw [g6, g4 1 (by decide)]⟩
  have htS : ∀ w ∈ rz_TS, w.before #[Value.ref b] s = true := fun w hw => hts w (List.mem_filter.mp hw).1
  have hC : ∀ B, rz_in G B → rz_C G B 0 p l s m #[Value.ref b] meth c := fun B hB => ⟨hx, hb, hr, hml, hown, htS, hlocks, fun q => absurd q (by decide), het, g7, hG, hB, htr⟩
  obtain ⟨B1, k1, k2⟩ := hs1 G hG ⟨L, hL, g5⟩
  obtain ⟨B2, k3, k4⟩ := hs2 G hG ⟨L, hL, g5⟩
  have hp0 : rz_hp G [] s.heap := ⟨by rw [g1]; rfl, fun q _ => by rw [g3], fun k e0 hk => by cases hk⟩
  have hl := lv_entry ([.ref b]) (n := 8) (Nat.le_of_ble_eq_true rfl)
  rw [lg_entry_eq]
  have hend : rz_Wj G (rz_nL 0) p l e room_1 s m #[Value.ref b] below meth c (lw_Z below #[Value.ref b] s) f1.1 f1.2.1 f1.2.2.1 f1.2.2.2.1 f1.2.2.2.2.1 f1.2.2.2.2.2 := by
    unfold rz_end at k3
    cases hrun : rz_run (rz_ev B2 12) B2 600002 7302197 0 200 f1 with
    | none => simp [hrun] at k3
    | some r =>
      simp only [hrun, Bool.and_eq_true, decide_eq_true_eq] at k3
      refine rz_wmono (fun t ht => ?_) (rz_runOK hst (hC B2 k4) (rz_evOK hst hD hG k4 htr 12) (R := room_1) (by decide) (by decide) rfl rfl 200 f1 hrun)
      obtain ⟨o, b1, b2, b3, L9, b4, b5⟩ := ht
      obtain ⟨c1, c2⟩ := b3
      obtain ⟨⟨rn, rv⟩, rh, rk, rz⟩ := r
      obtain ⟨k31, k32, k33⟩ := k3
      cases k31
      obtain ⟨w, rfl, y, rfl, hy⟩ := c2
      have e1 : y = 1 := rz_int_eq hy
      subst e1
      refine ⟨_, b1, b2, rfl, ⟨_, rfl⟩, b4.1, b4.2.weaken (fun y hy hlt => ?_) (Nat.ble_eq.mp k32) (Nat.ble_eq.mp k33)⟩
      have this : rz_n0 G ≤ y.base := b5 y hy
      rw [g1] at this
      exact absurd hlt (Nat.not_lt.mpr this)
  have hstart : rz_Wj G (rz_nL 0) p l e room_1 s m #[Value.ref b] below meth c (lw_Z below #[Value.ref b] s) rz_f0.1 rz_f0.2.1 rz_f0.2.2.1 rz_f0.2.2.2.1 rz_f0.2.2.2.2.1 rz_f0.2.2.2.2.2 := by
    unfold rz_seg at k1
    cases hrun : rz_runs (rz_ev B1 12) B1 600002 7302197 0 n rz_f0 with
    | none => simp [hrun] at k1
    | some g =>
      simp only [hrun] at k1
      exact rz_runsOK hst (hC B1 k2) (rz_evOK hst hD hG k2 htr 12) (R := room_1) (by decide) (by decide) rfl rfl n rz_f0 hrun (rz_leFs k1 hend)
  exact hstart s.heap [] _ [] ⟨_, hl, ⟨rfl, (show Value.ref b = Value.ref (rz_b G) by rw [g2]), trivial⟩⟩ trivial hp0 (fun q hq => nomatch hq)
