/-! Fields, new cells, references stored in arrays, the ends. -/
/-- what the tables know of the class a -/
def rz_clOK (a : Nat) : Prop := vwCl[a]? = some (rz_cn a, rz_T a, rz_N a) ∧ (∀ w ∈ u_ws (rz_cn a) (rz_T a) (rz_N a), w ∈ rz_TS) ∧ (∀ k, k < rz_N a → parseFieldDescriptor (rz_T a k).2.2.1 = some (rz_ty a k)) ∧
  (∀ x, x < rz_N a → ∀ y, y < rz_N a → x ≠ y → (rz_T a x).2.1 ≠ (rz_T a y).2.1) ∧ Cond.instantiable (rz_cn a) (rz_N a) ∈ rz_TS ∧ Cond.initialized (rz_cn a) ∈ rz_TS
/-- what the tables know of a field's entry -/
def rz_flOK (o x a kf : Nat) : Prop := kf < rz_N a ∧ (rz_T a kf).1 = rz_cn a ∧ Cond.fieldLink (rz_cn o) x (rz_cn a) (rz_T a kf).2.1 (rz_T a kf).2.2.1 ∈ rz_TS
section
variable {G : rz_G} {B : rz_B} {i nL : Nat} {p : Program} {l : Launch} {e : Env} {R : Room} {s : State} {m : MethodId} {args : Array Value} {below : List Frame} {meth : Method} {c : Code}
variable {pc : Nat} {L : List (Nat × rz_V)} {S : List rz_V} {h : List rz_E} {k z : Nat} {Q : State → Prop} {H : Heap} {locs : List Loc} {ls : Array Slot} {rest : List Value} {cc : ByteArray}
theorem rz_Co (C : rz_C G B i p l s m args meth c) : s.vm.findClass (rz_cn (rz_mo i)) = some m.cls := C.2.2.2.2.1
theorem rz_Ct (C : rz_C G B i p l s m args meth c) : ∀ w ∈ rz_TS, w.before args s = true := C.2.2.2.2.2.1
theorem rz_o_getf (C : rz_C G B i p l s m args meth c) {x v : rz_V} {a kf idx : Nat} {e0 : rz_E} (hcl : rz_clOK a) (hfl : rz_flOK (rz_mo i) idx a kf) (hd : decode (rz_by i) pc = .ok (.getfield idx, 3)) (hx : rz_cell h x = some e0) (h0 : Nat.beq e0.1 0 = true) (h1 : Nat.beq e0.2.1 a = true) (hv : rz_nth e0.2.2.1 kf = some v) (kk : rz_Wj G nL p l e R s m args below meth c Q (pc + 3) L (v :: S) h k z) : rz_Wj G nL p l e R s m args below meth c Q pc L (x :: S) h k z := by
  intro H locs ls st hl hs hp hf
  obtain ⟨w, st, rfl, h2, hs1⟩ := rz_skc hs
  obtain ⟨rfl, -, cell, g1, g2⟩ := rz_cellat hp hx h2
  obtain ⟨d1, d2, d3⟩ := rz_cello g2 (Nat.eq_of_beq_eq_true h0)
  obtain ⟨y, y1, y2⟩ := d3 _ _ hv
  rw [Nat.eq_of_beq_eq_true h1] at y1
  obtain ⟨c1, c2, c3, c4, c5, c6⟩ := hcl
  obtain ⟨f1, f2, f3⟩ := hfl
  obtain ⟨hS, hfc, kC, hkC, hkind⟩ := (rz_Cw C).1.1 a _ c1
  obtain ⟨cf, kf', fi, f, hi, hsl⟩ := hS kf f1
  have hst := (u_facts hfc hkC (u_lays (rz_Ct C) c2 f1) hi).1
  refine W.getf C.1 C.2.1 (rz_Co C) (rz_Ct C _ f3) (by rw [← f2]; exact hi) hst g1 (rz_vmk d1) (v := y) ?_ rfl rfl hd (kk H locs ls _ hl ⟨y2, hs1⟩ hp hf)
  rw [hsl]; exact y1
theorem rz_fits {ty : FieldType} {v : rz_V} {w : Value} (hv : rz_fit ty v = true) (r : rz_vr G v w) : narrow ty w = w ∧ fits ty w = true := by
  cases ty with
  | int => obtain ⟨x, rfl⟩ := rz_vI hv r; exact ⟨rfl, rfl⟩
  | long => obtain ⟨x, rfl⟩ := rz_vL hv r; exact ⟨rfl, rfl⟩
  | boolean => obtain ⟨x, rfl, hx⟩ := rz_b01s hv r; exact ⟨rz_nb hx, by rcases hx with rfl | rfl <;> rfl⟩
  | object n => rcases rz_vA hv r with rfl | ⟨x, rfl⟩ <;> exact ⟨rfl, rfl⟩
  | array n => rcases rz_vA hv r with rfl | ⟨x, rfl⟩ <;> exact ⟨rfl, rfl⟩
  | _ => simp [rz_fit] at hv
theorem rz_o_putf (C : rz_C G B i p l s m args meth c) {x v : rz_V} {a kf idx : Nat} {e0 : rz_E} (hcl : rz_clOK a) (hfl : rz_flOK (rz_mo i) idx a kf) (hfin : (rz_T a kf).2.2.2 = true → (rz_y i).name = "<init>" ∧ rz_cn (rz_mo i) = rz_cn a) (hd : decode (rz_by i) pc = .ok (.putfield idx, 3)) (hx : rz_cell h x = some e0) (h0 : Nat.beq e0.1 0 = true) (h1 : Nat.beq e0.2.1 a = true) (hlen : kf < e0.2.2.1.length) (hv : rz_fit (rz_ty a kf) v = true) (kk : rz_Wj G nL p l e R s m args below meth c Q (pc + 3) L S (rz_set h x.2.toNat (0, a, rz_set e0.2.2.1 kf v, e0.2.2.2)) k z)
    (hfull : ∀ j a0, rz_nth e0.2.2.1 j = some a0 → j < rz_N a) : rz_Wj G nL p l e R s m args below meth c Q pc L (v :: x :: S) h k z := by
  intro H locs ls st hl hs hp hf
  obtain ⟨w0, st, rfl, hw, hs0⟩ := rz_skc hs
  obtain ⟨w, st, rfl, h2, hs1⟩ := rz_skc hs0
  obtain ⟨rfl, -, cell, g1, g2⟩ := rz_cellat hp hx h2
  obtain ⟨d1, d2, d3⟩ := rz_cello g2 (Nat.eq_of_beq_eq_true h0)
  have ea := Nat.eq_of_beq_eq_true h1
  obtain ⟨c1, c2, c3, c4, c5, c6⟩ := hcl
  obtain ⟨f1, f2, f3⟩ := hfl
  have hap := va_apart (own := rz_cn (rz_mo i)) (rz_Ct C) c2 (rz_ty a) c3 c4 (rz_Cw C).1 c1
  obtain ⟨hS, hfc, kC, hkC, hkind⟩ := (rz_Cw C).1.1 a _ c1
  obtain ⟨cf, kf', fi, f, hi, hsl⟩ := hS kf f1
  have hst := (u_facts hfc hkC (u_lays (rz_Ct C) c2 f1) hi).1
  obtain ⟨hn, hfit⟩ := rz_fits hv hw
  have hlay := rz_Ct C _ (c2 _ (u_in_lay f1))
  have hin : ∃ y, rz_nth e0.2.2.1 kf = some y := by
    cases q : rz_nth e0.2.2.1 kf with
    | some y => exact ⟨y, rfl⟩
    | none =>
      exfalso
      have : ∀ (l : List rz_V) (n : Nat), n < l.length → rz_nth l n ≠ none := by
        intro l
        induction l with
        | nil => intro n hn; simp at hn
        | cons z l ih =>
          intro n hn
          cases n with
          | zero => simp [rz_nth]
          | succ n => exact ih n (by simpa using hn)
      exact this _ _ hlen q
  obtain ⟨y0, hy0⟩ := hin
  obtain ⟨y1, y2, -⟩ := d3 _ _ hy0
  rw [ea] at y2
  have hslt : f.slot < cell.slots.size := by rw [hsl]; exact k2_hasslot y2
  have hnew : ∀ H' : Heap, H'[rz_n0 G + x.2.toNat]? = some (cell.setSlot f.slot w0) → H'.size = H.size → (∀ q, q ≠ rz_n0 G + x.2.toNat → H'[q]? = H[q]?) → rz_hp G (rz_set h x.2.toNat (0, a, rz_set e0.2.2.1 kf v, e0.2.2.2)) H' := by
    intro H' e1 e2 e3
    refine rz_hput hp e1 e2 e3 ⟨d1, Or.inl ⟨rfl, by rw [← ea]; exact d2, fun j a0 hj => ?_⟩⟩
    rw [hsl] at e1
    rcases rz_nth_set hj with ⟨rfl, rfl⟩ | ⟨hne, hj⟩
    · exact ⟨w0, by rw [hsl, rz_slotset, if_pos ⟨rfl, by rw [← hsl]; exact hslt⟩], hw⟩
    · obtain ⟨u, u1, u2⟩ := d3 _ _ hj
      rw [ea] at u1
      exact ⟨u, by rw [hsl, rz_slotset, if_neg (fun q => hap _ _ (hfull j a0 hj) f1 hne q.1)]; exact u1, u2⟩
  unfold u_lay at hlay
  by_cases hfi : (rz_T a kf).2.2.2 = true
  · rw [if_pos hfi] at hlay
    obtain ⟨hi1, hi2⟩ := hfin hfi
    have hcf : m.cls = cf := by
      obtain ⟨_, _, c', _, _, _, -, -, hf', -, -, -, hown2, -⟩ := Cond.laysFinal_spec hlay
      have e1 : c' = cf := by have := hi.symm.trans hf'; simp at this; exact this.1.symm
      rw [f2, ← hi2] at hown2
      rw [← e1]; exact Option.some.inj ((rz_Co C).symm.trans hown2)
    have h6 := u_fits hfc hkC hkind (Or.inr hlay) hi (c3 _ f1) hn hfit
    exact W.putFinK C.1 C.2.1 (rz_Co C) (rz_Ct C _ f3) (by rw [← f2]; exact hi) hst hcf (C.2.2.2.2.2.2.2.1 hi1) (by rw [d2, ea]; exact h6) g1 d1 hslt rfl rfl hd (fun H' e1 e2 e3 => kk H' _ ls _ hl hs1 (hnew H' e1 e2 e3) (rz_lapp (hf := hf) (by omega)))
  · rw [if_neg hfi] at hlay
    have h6 := u_store hfc hkC hkind hlay hi (c3 _ f1) hn hfit
    exact W.putK C.1 C.2.1 (f := f) ⟨rz_Co C, rz_Ct C _ f3, ⟨_, _, _, by rw [← f2]; exact hi⟩, hst⟩ (by rw [d2, ea]; exact h6) g1 d1 hslt rfl rfl hd (fun H' e1 e2 e3 => kk H' _ ls _ hl hs1 (hnew H' e1 e2 e3) (rz_lapp (hf := hf) (by omega)))
theorem rz_dtv {ty : FieldType} (hty : ty = .int ∨ ty = .long ∨ ty = .boolean ∨ (∃ n, ty = .object n) ∨ ∃ n, ty = .array n) : rz_vr G (rz_dt ty) (defaultValue ty) := by
  rcases hty with rfl | rfl | rfl | ⟨n, rfl⟩ | ⟨n, rfl⟩
  · exact ⟨0, rfl, rfl⟩
  · exact ⟨0, rfl, rfl⟩
  · exact ⟨0, rfl, rfl⟩
  · rfl
  · rfl
theorem rz_nthmap {α β : Type} {f : α → β} : ∀ {l : List α} {j : Nat} {y : β}, rz_nth (l.map f) j = some y → ∃ x, l[j]? = some x ∧ f x = y
  | [], _, _, h => by cases h
  | a :: l, 0, y, h => ⟨a, rfl, Option.some.inj h⟩
  | a :: l, n + 1, y, h => by
    obtain ⟨x, h1, h2⟩ := rz_nthmap (l := l) (j := n) h
    exact ⟨x, by simpa using h1, h2⟩
theorem rz_o_new (C : rz_C G B i p l s m args meth c) {a idx : Nat} (hcl : rz_clOK a) (hty : ∀ k, k < rz_N a → rz_ty a k = .int ∨ rz_ty a k = .long ∨ rz_ty a k = .boolean ∨ (∃ n, rz_ty a k = .object n) ∨ ∃ n, rz_ty a k = .array n) (hln : Cond.classLink (rz_cn (rz_mo i)) idx (rz_cn a) ∈ rz_TS) (hd : decode (rz_by i) pc = .ok (.new idx, 3)) (hk : k + 1 ≤ R.cells) (hz : z + rz_N a ≤ R.slots) (kk : rz_Wj G nL p l e R s m args below meth c Q (pc + 3) L ((4, (h.length : Int)) :: S) (h ++ [(0, a, rz_df a, [])]) (k + 1) (z + rz_N a)) : rz_Wj G nL p l e R s m args below meth c Q pc L S h k z := by
  intro H locs ls st hl hs hp hf
  obtain ⟨c1, c2, c3, c4, c5, c6⟩ := hcl
  have hKn := (rz_Cw C).1.1 a _ c1
  refine W.newcK C.1 C.2.1 (rz_Co C) (rz_Ct C _ hln) (rz_Ct C _ c5) (rz_Ct C _ c6) rfl hd hk hz hKn.2.1 rfl fun H1 kC hkC e1 z1 o1 => ?_
  obtain ⟨cell, t1, t2, t3, t4⟩ := u_born (rz_ty a) (rz_Ct C) c2 hKn hkC e1 c3
  refine kk H1 locs ls _ hl ⟨?_, hs⟩ (rz_hnew hp t1 z1 o1 ⟨t3, Or.inl ⟨rfl, t2, fun j a0 hj => ?_⟩⟩) hf
  · show Value.ref H.size = Value.ref _
    rw [hp.1]; simp
  · obtain ⟨x, h1, h2⟩ := rz_nthmap hj
    have hx : j < rz_N a ∧ x = j := by
      have hlt := (List.getElem?_eq_some_iff.mp h1).1
      simp at hlt
      have := (List.getElem?_eq_some_iff.mp h1).2
      simp at this
      exact ⟨hlt, this.symm⟩
    obtain ⟨hlt, rfl⟩ := hx
    exact ⟨_, t4 x hlt, by rw [← h2]; exact rz_dtv (hty x hlt)⟩
theorem rz_dv_at {kind n j : Nat} {v : Value} (hk : rz_vr G (rz_dv kind) v) : rz_vr G (rz_ael (kind, n, [], []) j) v := hk
theorem rz_o_newa (C : rz_C G B i p l s m args meth c) {x : rz_V} {t : ArrayType} {ka : Nat} (hd : decode (rz_by i) pc = .ok (.newarray t, 2)) (hka : (t = .int ∧ ka = 1) ∨ (t = .long ∧ ka = 2) ∨ (t = .boolean ∧ ka = 3)) (hw : Cond.arrayClass (newarray.typeOf t) ∈ rz_TS) (hx : rz_k x = true) (h0 : 0 ≤ x.2) (h1 : x.2 ≤ 100000) (hk : k + 1 ≤ R.cells) (hz : z + x.2.toNat ≤ R.slots) (kk : rz_Wj G nL p l e R s m args below meth c Q (pc + 2) L ((4, (h.length : Int)) :: S) (h ++ [(ka, x.2.toNat, [], [])]) (k + 1) (z + x.2.toNat)) : rz_Wj G nL p l e R s m args below meth c Q pc L (x :: S) h k z := by
  intro H locs ls st hl hs hp hf
  obtain ⟨w, st, rfl, h2, hs1⟩ := rz_skc hs
  obtain ⟨y, rfl, hy⟩ := rz_vk hx h2
  obtain ⟨q1, q2⟩ := rz_clamp hy h0
  have hcb : componentBytes (newarray.typeOf t) ≤ 8 := by
    rcases hka with ⟨rfl, -⟩ | ⟨rfl, -⟩ | ⟨rfl, -⟩ <;> decide
  have hbytes : x.2.toNat * componentBytes (newarray.typeOf t) ≤ 536870912 := by
    have h9 : x.2.toNat ≤ 100000 := by omega
    calc x.2.toNat * componentBytes (newarray.typeOf t) ≤ 100000 * 8 := Nat.mul_le_mul h9 hcb
      _ ≤ 536870912 := by decide
  refine va_newaK C.1 C.2.1 (rz_Ct C _ hw) rfl hd rfl q1 q2 hbytes hk hz rfl fun H1 cA e1 z1 o1 hAr hNm => ?_
  have hdv : rz_vr G (rz_dv ka) (defaultValue (newarray.typeOf t)) := by
    rcases hka with ⟨rfl, rfl⟩ | ⟨rfl, rfl⟩ | ⟨rfl, rfl⟩ <;> exact ⟨0, rfl, rfl⟩
  have hcA : cA = rz_a G ka := by
    have hra := ((rz_Cw C).2.1 ka (by rcases hka with ⟨-, rfl⟩ | ⟨-, rfl⟩ | ⟨-, rfl⟩ <;> rfl)).2
    rcases hka with ⟨rfl, rfl⟩ | ⟨rfl, rfl⟩ | ⟨rfl, rfl⟩ <;> exact Option.some.inj (hNm.symm.trans hra)
  refine kk H1 locs ls _ hl ⟨?_, hs1⟩ (rz_hnew hp e1 z1 o1 ⟨rfl, Or.inr (Or.inr ⟨?_, ?_, hcA, ?_, fun j hj => ⟨_, ?_, hdv⟩⟩)⟩) hf
  · show Value.ref H.size = Value.ref _
    rw [hp.1]; simp
  · rcases hka with ⟨-, rfl⟩ | ⟨-, rfl⟩ | ⟨-, rfl⟩ <;> simp
  · rcases hka with ⟨-, rfl⟩ | ⟨-, rfl⟩ | ⟨-, rfl⟩ <;> simp
  · rw [arrV_size]
  · first | exact arrV_read _ _ hj | (simp [arrV, hj]; done) | (rw [← arrV_new]; simp [hj])
end
