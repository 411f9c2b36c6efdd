/-! The words that hold on, the world that holds on, and the frame's judgement. -/
def rz_gw (w : Cond) : Bool := goodWord w || (match w with
  | .methodLinkNest .. => true
  | .castable .. => true
  | .declares _ => true
  | .arrayOver (.object _) => true
  | _ => false)
theorem rz_gw_at {args a' : Array Value} {s U : State} {w : Cond} (hW : s.WarmedH U.vm) (hg : rz_gw w = true) (h : w.before args s = true) : w.before a' U = true := by
  simp only [rz_gw, Bool.or_eq_true] at hg
  rcases hg with hg | hg
  · exact word_at hW (good_of_word hg) h
  · cases w with
    | methodLinkNest a i x hst => exact va_Nw.use rfl (va_Nw.warmM hW (va_Nw.of rfl h))
    | castable a b => exact va_Nw.use rfl (va_Nw.warmC hW (va_Nw.of rfl h))
    | declares x => exact va_Nw.use rfl (va_Nw.warmD hW (va_Nw.of rfl h))
    | arrayOver t =>
      cases t with
      | object C => exact va_AO.use (va_AO.moved hW.alike (va_AO.of h))
      | _ => simp at hg
    | _ => simp at hg
def rz_TS : List Cond := lw_tbl.filter rz_gw
theorem rz_inTS {i : Nat} {w : Cond} (h : lw_tbl[i]? = some w) (hg : rz_gw w = true) : w ∈ rz_TS := List.mem_filter.mpr ⟨List.mem_of_getElem? h, hg⟩
theorem rz_TSat {args a' : Array Value} {s U : State} (hW : s.WarmedH U.vm) (h : ∀ w ∈ rz_TS, w.before args s = true) : ∀ w ∈ rz_TS, w.before a' U = true := fun w hw => rz_gw_at hW (List.mem_filter.mp hw).2 (h w hw)
def rz_ak (k : Nat) : Bool := Nat.beq k 1 || (Nat.beq k 2 || (Nat.beq k 3 || (Nat.beq k 10 || (Nat.beq k 13 || (Nat.beq k 8 || (Nat.beq k 7 || (Nat.beq k 12 || Nat.beq k 4)))))))
def rz_aty (k : Nat) : FieldType := bif Nat.beq k 1 then .int else bif Nat.beq k 2 then .long else bif Nat.beq k 3 then .boolean else .object (rz_cn (k - 4))
def rz_iae : String := "java/lang/IllegalArgumentException"
def rz_txt : String := "an argument is none that is told"
def rz_WI (G : rz_G) (is : Nat) (U : State) : Prop := va_K (rz_D G) vwCl [] U ∧ (∀ k, rz_ak k = true → ArrOfT U (rz_a G k) (rz_aty k) ∧ va_RA U (rz_a G k) (rz_aty k)) ∧
  (∃ L : Nat, va_X (rz_b G) L (rz_p G) U (rz_H0 G) ∧ rz_p G 8 = Int32.ofNat L ∧ L ≤ 8) ∧ U.vm.findClass rz_iae = some (rz_x G) ∧
  vx_Zq Bundle.tN "UNASSIGNED_STACK" Bundle.steD (fun q => rz_n0 G ≤ q) U (rz_H0 G) ∧ vx_Zq Bundle.tN "SUPPRESSED_SENTINEL" Bundle.listD (fun q => rz_n0 G ≤ q) U (rz_H0 G) ∧ ∃ sa : Nat, vk_R RX10 is rz_txt sa U
theorem rz_WIw {G : rz_G} {is : Nat} {s U : State} (hW : s.WarmedH U.vm) (h : rz_WI G is s) : rz_WI G is U := by
  obtain ⟨h1, h2, ⟨L, h3, h4, h5⟩, h6, h7, h8, sa, h9⟩ := h
  exact ⟨va_K.moved hW.alike h1, fun k hk => ⟨arrOfT_moved hW.alike (h2 k hk).1, (h2 k hk).2.moved hW.alike⟩, ⟨L, h3.moved hW.alike, h4, h5⟩, by rw [hW.alike.findClass]; exact h6, h7.moved hW.alike, h8.moved hW.alike, sa, vk_R.warm hW h9⟩
/-- what is fixed for all runs: the start's heap ends at n0; the script lies in it; the ninth number -/
def rz_Gk (G : rz_G) : Prop := rz_n0 G = (rz_H0 G).size ∧ rz_b G < rz_n0 G ∧ rz_p G 9 = rz_p G 1 &&& 31
def rz_is0 : Nat := 295
/-- a method's invocation -/
def rz_C (G : rz_G) (B : rz_B) (i : Nat) (p : Program) (l : Launch) (s : State) (m : MethodId) (args : Array Value) (meth : Method) (c : Code) : Prop :=
  p.tables.exec = Jvm.exec ∧ c.code = rz_by i ∧ meth.sig.returnType = rz_ret i ∧ c.maxLocals = rz_nL i ∧ s.vm.findClass (rz_cn (rz_mo i)) = some m.cls ∧ (∀ w ∈ rz_TS, w.before args s = true) ∧ meth.locks = false ∧
  ((rz_y i).name = "<init>" → meth.name = "<init>") ∧ c.exceptionTable.toList = tableOf (rz_hh i) ∧ rz_WI G rz_is0 s ∧ rz_Gk G ∧ rz_in G B ∧ l.stackTraces = false
def rz_Wj (G : rz_G) (nL : Nat) (p : Program) (l : Launch) (e : Env) (R : Room) (s : State) (m : MethodId) (args : Array Value) (below : List Frame) (meth : Method) (c : Code) (Q : State → Prop) (pc : Nat) (L : List (Nat × rz_V)) (S : List rz_V) (h : List rz_E) (k z : Nat) : Prop :=
  ∀ (H : Heap) (locs : List Loc) (ls : Array Slot) (st : List Value), rz_loc G nL L ls → rz_sk G S st → rz_hp G h H → (∀ q ∈ locs, rz_n0 G ≤ q.base) → W p l e R s m args below meth c H locs k z Q (F0 m pc ls st)
/-- what an end of the small machine says of the real one's -/
def rz_Q (G : rz_G) (r : rz_R) (o : Outcome) (t : State) : Prop := rz_hp G r.2.1 t.heap ∧ match r.1 with
  | (0, _) => o = .returned none
  | (1, v) => ∃ w : Value, o = .returned (some w) ∧ rz_vr G v w
  | (_, v) => ∃ (q : Nat) (j : Nat), o = .threw q ∧ v = (4, (j : Int)) ∧ q = rz_n0 G + j ∧ ∃ n fs us, rz_nth r.2.1 j = some (100, n, fs, us)
abbrev rz_fr (G : rz_G) : Addr → Prop := fun q => rz_n0 G ≤ q
/-- an instruction's row: what the step gives carries over -/
def rz_Ok (G : rz_G) (nL : Nat) (p : Program) (l : Launch) (e : Env) (R : Room) (s : State) (m : MethodId) (args : Array Value) (below : List Frame) (meth : Method) (c : Code) (pc : Nat) (L : List (Nat × rz_V)) (S : List rz_V) (h : List rz_E) (k z : Nat) (r : rz_F ⊕ rz_R) : Prop := match r with
  | .inl f => ∀ Q, rz_Wj G nL p l e R s m args below meth c Q f.1 f.2.1 f.2.2.1 f.2.2.2.1 f.2.2.2.2.1 f.2.2.2.2.2 → rz_Wj G nL p l e R s m args below meth c Q pc L S h k z
  | .inr r => rz_Wj G nL p l e R s m args below meth c (rz_MQ below (rz_Q G r) s r.2.2.1 r.2.2.2 (rz_fr G)) pc L S h k z
