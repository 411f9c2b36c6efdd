/-! A small machine of my own: values that are known, or an int of the script, or any; cells by their places behind the start's heap; a box says between which bounds the script's ints lie. It is run by the kernel; part 05 and on say that the real machine goes where it goes. -/
abbrev rz_V : Type := Nat × Int
abbrev rz_E : Type := Nat × Nat × List rz_V × List (Nat × rz_V)
abbrev rz_F : Type := Nat × List (Nat × rz_V) × List rz_V × List rz_E × Nat × Nat
abbrev rz_R : Type := (Nat × rz_V) × List rz_E × Nat × Nat
abbrev rz_B : Type := List (Int × Int)
abbrev rz_I : Type := Instr × Nat × Int
abbrev rz_X : Type := Option (rz_F ⊕ rz_R)
def rz_nth {α : Type} : List α → Nat → Option α
  | [], _ => none
  | x :: _, 0 => some x
  | _ :: l, n + 1 => rz_nth l n
def rz_set {α : Type} : List α → Nat → α → List α
  | [], _, _ => []
  | _ :: l, 0, y => y :: l
  | x :: l, n + 1, y => x :: rz_set l n y
def rz_lk : List (Nat × rz_V) → Nat → Option rz_V
  | [], _ => none
  | q :: l, i => bif Nat.beq q.1 i then some q.2 else rz_lk l i
def rz_isI (v : rz_V) : Bool := Nat.beq v.1 0 || (Nat.beq v.1 1 || Nat.beq v.1 6)
def rz_isL (v : rz_V) : Bool := Nat.beq v.1 2 || (Nat.beq v.1 3 || Nat.beq v.1 7)
def rz_isA (v : rz_V) : Bool := Nat.beq v.1 4 || (Nat.beq v.1 5 || Nat.beq v.1 8)
def rz_cat (v : rz_V) : Nat := bif rz_isL v then 2 else 1
def rz_cats : List rz_V → Nat
  | [] => 0
  | v :: l => rz_cat v + rz_cats l
def rz_itv (B : rz_B) (v : rz_V) : Option (Int × Int) := bif Nat.beq v.1 0 then some (v.2, v.2) else bif Nat.beq v.1 1 then rz_nth B v.2.toNat else none
def rz_ltv (B : rz_B) (v : rz_V) : Option (Int × Int) := bif Nat.beq v.1 2 then some (v.2, v.2) else bif Nat.beq v.1 3 then rz_nth B v.2.toNat else none
def rz_nm (B : rz_B) (k : Nat) : rz_V := match rz_nth B k with
  | some (lo, hi) => bif decide (lo = hi) then (0, lo) else (1, (k : Int))
  | none => (6, 0)
def rz_r32 (n : Int) : Bool := decide (-2147483648 ≤ n) && decide (n ≤ 2147483647)
def rz_r64 (n : Int) : Bool := decide (-9223372036854775808 ≤ n) && decide (n ≤ 9223372036854775807)
def rz_lt (B : rz_B) (a b : rz_V) : Option Bool := match rz_itv B a, rz_itv B b with
  | some (l1, h1), some (l2, h2) => bif decide (h1 < l2) then some true else bif decide (h2 ≤ l1) then some false else none
  | _, _ => none
def rz_eq (B : rz_B) (a b : rz_V) : Option Bool := match rz_itv B a, rz_itv B b with
  | some (l1, h1), some (l2, h2) => bif decide (h1 < l2) || decide (h2 < l1) then some false else bif decide (l1 = h1) && (decide (l2 = h2) && decide (l1 = l2)) then some true else none
  | _, _ => none
def rz_no (r : Option Bool) : Option Bool := match r with
  | some b => some (!b)
  | none => none
def rz_cmp (c : ClassFile.Cond) (B : rz_B) (a b : rz_V) : Option Bool := match c with
  | .eq => rz_eq B a b
  | .ne => rz_no (rz_eq B a b)
  | .lt => rz_lt B a b
  | .ge => rz_no (rz_lt B a b)
  | .gt => rz_lt B b a
  | .le => rz_no (rz_lt B b a)
def rz_jp (pc : Nat) (off : Int) : Option Nat := bif decide (0 ≤ (pc : Int) + off) then some ((pc : Int) + off).toNat else none
def rz_k (v : rz_V) : Bool := Nat.beq v.1 0
def rz_lk2 (v : rz_V) : Bool := Nat.beq v.1 2
def rz_ii (r : Int) : rz_V := bif rz_r32 r then (0, r) else (6, 0)
def rz_li (r : Int) : rz_V := bif rz_r64 r then (2, r) else (7, 0)
def rz_add (a b : rz_V) : rz_V := bif rz_k a && rz_k b then rz_ii (a.2 + b.2) else (6, 0)
def rz_sub (a b : rz_V) : rz_V := bif rz_k a && rz_k b then rz_ii (a.2 - b.2) else (6, 0)
def rz_mul (a b : rz_V) : rz_V := bif rz_k a && rz_k b then rz_ii (a.2 * b.2) else (6, 0)
def rz_and (B : rz_B) (a b : rz_V) : rz_V := bif decide (a = (1, 1)) && decide (b = (0, 31)) then rz_nm B 9 else (6, 0)
def rz_ladd (a b : rz_V) : rz_V := bif decide (a = (2, 0)) then b else bif decide (b = (2, 0)) then a else bif rz_lk2 a && rz_lk2 b then rz_li (a.2 + b.2) else (7, 0)
def rz_lsub (a b : rz_V) : rz_V := bif rz_lk2 a && rz_lk2 b then rz_li (a.2 - b.2) else (7, 0)
def rz_land (a b : rz_V) : rz_V := bif decide (a = (2, 0)) || decide (b = (2, 0)) then (2, 0) else (7, 0)
def rz_i2l (a : rz_V) : rz_V := bif rz_k a then (2, a.2) else bif Nat.beq a.1 1 then (3, a.2) else (7, 0)
def rz_l2i (a : rz_V) : rz_V := bif rz_lk2 a && rz_r32 a.2 then (0, a.2) else (6, 0)
def rz_lcmp (B : rz_B) (a b : rz_V) : Option rz_V := bif Nat.beq a.1 3 && decide (a = b) then some (0, 0) else match rz_ltv B a, rz_ltv B b with
  | some (l1, h1), some (l2, h2) => bif decide (h1 < l2) then some (0, -1) else bif decide (h2 < l1) then some (0, 1) else bif decide (l1 = h1) && (decide (l2 = h2) && decide (l1 = l2)) then some (0, 0) else none
  | _, _ => none
def rz_dv (kind : Nat) : rz_V := bif Nat.beq kind 1 || Nat.beq kind 3 then (0, 0) else bif Nat.beq kind 2 then (2, 0) else (5, 0)
def rz_ael (e : rz_E) (j : Nat) : rz_V := match rz_lk e.2.2.2 j with
  | some v => v
  | none => rz_dv e.1
/-- the cell that a reference names -/
def rz_cell (h : List rz_E) (a : rz_V) : Option rz_E := bif Nat.beq a.1 4 then rz_nth h a.2.toNat else none
def rz_ld (h : List rz_E) (kind : Nat → Bool) (i a : rz_V) : Option rz_V := match rz_cell h a with
  | some e => bif kind e.1 && (rz_k i && (decide (0 ≤ i.2) && Nat.blt i.2.toNat e.2.1)) then some (rz_ael e i.2.toNat) else none
  | none => none
def rz_as (h : List rz_E) (kind : Nat → Bool) (v i a : rz_V) : Option (List rz_E) := match rz_cell h a with
  | some e => bif kind e.1 && (rz_k i && (decide (0 ≤ i.2) && Nat.blt i.2.toNat e.2.1)) then some (rz_set h a.2.toNat (e.1, e.2.1, e.2.2.1, (i.2.toNat, v) :: e.2.2.2)) else none
  | none => none
def rz_is (n k : Nat) : Bool := Nat.beq k n
def rz_isR (k : Nat) : Bool := Nat.blt 3 k && (Nat.blt k 16 && (Nat.beq k 10 || (Nat.beq k 13 || (Nat.beq k 8 || (Nat.beq k 7 || (Nat.beq k 12 || Nat.beq k 4))))))
def rz_b01 (v : rz_V) : Bool := decide (v = (0, 0)) || decide (v = (0, 1))
def rz_fit (ty : FieldType) (v : rz_V) : Bool := match ty with
  | .int => rz_isI v
  | .long => rz_isL v
  | .boolean => rz_b01 v
  | .object _ => rz_isA v
  | .array _ => rz_isA v
  | _ => false
def rz_dt (ty : FieldType) : rz_V := match ty with
  | .long => (2, 0)
  | .int => (0, 0)
  | .boolean => (0, 0)
  | _ => (5, 0)
def rz_tk : Nat → List rz_V → List rz_V → Option (List rz_V × List rz_V)
  | 0, acc, S => some (acc, S)
  | n + 1, acc, v :: S => rz_tk n (v :: acc) S
  | _ + 1, _, [] => none
def rz_hd : List (Nat × Nat × Nat × Nat) → Nat → Option (Nat × Nat)
  | [], _ => none
  | q :: l, pc => bif Nat.ble q.1 pc && Nat.blt pc q.2.1 then some q.2.2 else rz_hd l pc
def rz_st1 (L : List (Nat × rz_V)) (i : Nat) (v : rz_V) : List (Nat × rz_V) := (i, v) :: L.filter (fun q => !(q.1 == i) && !(q.1 + 1 == i && rz_cat q.2 == 2))
def rz_st2 (L : List (Nat × rz_V)) (i : Nat) (v : rz_V) : List (Nat × rz_V) := (i, v) :: L.filter (fun q => !(q.1 == i) && (!(q.1 == i + 1) && !(q.1 + 1 == i && rz_cat q.2 == 2)))
def rz_ar : Nat → List rz_V → List (Nat × rz_V)
  | _, [] => []
  | k, v :: l => (k, v) :: rz_ar (k + rz_cat v) l
abbrev rz_go (pc : Nat) (L : List (Nat × rz_V)) (S : List rz_V) (h : List rz_E) (k z : Nat) : rz_X := some (.inl (pc, L, S, h, k, z))
/-- one instruction; 'call' evaluates a callee; K and Z bound the cells and slots -/
def rz_step (call : Nat → List rz_V → List rz_E → Nat → Nat → Option rz_R) (np : Nat → Nat) (mo : Nat → Nat) (N : Nat → Nat) (df : Nat → List rz_V) (fty : Nat → Nat → FieldType) (hh : List (Nat × Nat × Nat × Nat)) (rb : Bool) (B : rz_B) (K Z nL : Nat) (q : rz_I) (pc : Nat) (L : List (Nat × rz_V)) (S : List rz_V) (h : List rz_E) (k z : Nat) : rz_X :=
  match q with
  | (ins, a, b) =>
  match ins with
  | .iconst n => bif rz_r32 n then rz_go (pc + 1) L ((0, n) :: S) h k z else none
  | .bipush n => bif decide (-128 ≤ n) && decide (n ≤ 127) then rz_go (pc + 2) L ((0, n) :: S) h k z else none
  | .sipush n => bif decide (-32768 ≤ n) && decide (n ≤ 32767) then rz_go (pc + 3) L ((0, n) :: S) h k z else none
  | .lconst n => rz_go (pc + 1) L ((2, (n.val : Int)) :: S) h k z
  | .aconst_null => rz_go (pc + 1) L ((5, 0) :: S) h k z
  | .ldc _ => rz_go (pc + 2) L ((0, b) :: S) h k z
  | .ldc_w _ => rz_go (pc + 3) L ((0, b) :: S) h k z
  | .ldc2_w _ => rz_go (pc + 3) L ((2, b) :: S) h k z
  | .iload_n j => match rz_lk L j.val with
    | some v => bif rz_isI v then rz_go (pc + 1) L (v :: S) h k z else none
    | none => none
  | .iload j => match rz_lk L j with
    | some v => bif rz_isI v then rz_go (pc + 2) L (v :: S) h k z else none
    | none => none
  | .lload_n j => match rz_lk L j.val with
    | some v => bif rz_isL v then rz_go (pc + 1) L (v :: S) h k z else none
    | none => none
  | .lload j => match rz_lk L j with
    | some v => bif rz_isL v then rz_go (pc + 2) L (v :: S) h k z else none
    | none => none
  | .aload_n j => match rz_lk L j.val with
    | some v => bif rz_isA v then rz_go (pc + 1) L (v :: S) h k z else none
    | none => none
  | .aload j => match rz_lk L j with
    | some v => bif rz_isA v then rz_go (pc + 2) L (v :: S) h k z else none
    | none => none
  | .istore_n j => match S with
    | v :: S => bif rz_isI v && Nat.blt j.val nL then rz_go (pc + 1) (rz_st1 L j.val v) S h k z else none
    | [] => none
  | .istore j => match S with
    | v :: S => bif rz_isI v && Nat.blt j nL then rz_go (pc + 2) (rz_st1 L j v) S h k z else none
    | [] => none
  | .astore_n j => match S with
    | v :: S => bif rz_isA v && Nat.blt j.val nL then rz_go (pc + 1) (rz_st1 L j.val v) S h k z else none
    | [] => none
  | .astore j => match S with
    | v :: S => bif rz_isA v && Nat.blt j nL then rz_go (pc + 2) (rz_st1 L j v) S h k z else none
    | [] => none
  | .lstore j => match S with
    | v :: S => bif rz_isL v && Nat.blt (j + 1) nL then rz_go (pc + 2) (rz_st2 L j v) S h k z else none
    | [] => none
  | .iinc j n => match rz_lk L j with
    | some v => bif rz_k v && (rz_r32 n && (rz_r32 (v.2 + n) && Nat.blt j nL)) then rz_go (pc + 3) (rz_st1 L j (0, v.2 + n)) S h k z else none
    | none => none
  | .dup => match S with
    | v :: S => bif Nat.beq (rz_cat v) 1 then rz_go (pc + 1) L (v :: v :: S) h k z else none
    | _ => none
  | .dup_x1 => match S with
    | v :: w :: S => bif Nat.beq (rz_cat v) 1 && Nat.beq (rz_cat w) 1 then rz_go (pc + 1) L (v :: w :: v :: S) h k z else none
    | _ => none
  | .dup_x2 => match S with
    | v :: w :: u :: S => bif Nat.beq (rz_cat v) 1 && (Nat.beq (rz_cat w) 1 && Nat.beq (rz_cat u) 1) then rz_go (pc + 1) L (v :: w :: u :: v :: S) h k z else none
    | _ => none
  | .dup2 => match S with
    | v :: S => bif Nat.beq (rz_cat v) 2 then rz_go (pc + 1) L (v :: v :: S) h k z else match S with
      | w :: S => bif Nat.beq (rz_cat v) 1 && Nat.beq (rz_cat w) 1 then rz_go (pc + 1) L (v :: w :: v :: w :: S) h k z else none
      | [] => none
    | [] => none
  | .iadd => match S with
    | y :: x :: S => bif rz_isI y && rz_isI x then rz_go (pc + 1) L (rz_add x y :: S) h k z else none
    | _ => none
  | .isub => match S with
    | y :: x :: S => bif rz_isI y && rz_isI x then rz_go (pc + 1) L (rz_sub x y :: S) h k z else none
    | _ => none
  | .imul => match S with
    | y :: x :: S => bif rz_isI y && rz_isI x then rz_go (pc + 1) L (rz_mul x y :: S) h k z else none
    | _ => none
  | .iand => match S with
    | y :: x :: S => bif rz_isI y && rz_isI x then rz_go (pc + 1) L (rz_and B x y :: S) h k z else none
    | _ => none
  | .ladd => match S with
    | y :: x :: S => bif rz_isL y && rz_isL x then rz_go (pc + 1) L (rz_ladd x y :: S) h k z else none
    | _ => none
  | .lsub => match S with
    | y :: x :: S => bif rz_isL y && rz_isL x then rz_go (pc + 1) L (rz_lsub x y :: S) h k z else none
    | _ => none
  | .land => match S with
    | y :: x :: S => bif rz_isL y && rz_isL x then rz_go (pc + 1) L (rz_land x y :: S) h k z else none
    | _ => none
  | .lor => match S with
    | y :: x :: S => bif rz_isL y && rz_isL x then rz_go (pc + 1) L ((7, 0) :: S) h k z else none
    | _ => none
  | .lshl => match S with
    | y :: x :: S => bif rz_isI y && rz_isL x then rz_go (pc + 1) L ((7, 0) :: S) h k z else none
    | _ => none
  | .lcmp => match S with
    | y :: x :: S => match rz_lcmp B x y with
      | some v => rz_go (pc + 1) L (v :: S) h k z
      | none => none
    | _ => none
  | .i2l => match S with
    | x :: S => bif rz_isI x then rz_go (pc + 1) L (rz_i2l x :: S) h k z else none
    | _ => none
  | .l2i => match S with
    | x :: S => bif rz_isL x then rz_go (pc + 1) L (rz_l2i x :: S) h k z else none
    | _ => none
  | .goto off => match rz_jp pc off with
    | some t => rz_go t L S h k z
    | none => none
  | .ifCond c off => match S with
    | x :: S => match rz_jp pc off with
      | some t => match rz_cmp c B x (0, 0) with
        | some true => rz_go t L S h k z
        | some false => rz_go (pc + 3) L S h k z
        | none => none
      | none => none
    | _ => none
  | .if_icmp c off => match S with
    | y :: x :: S => match rz_jp pc off with
      | some t => match rz_cmp c B x y with
        | some true => rz_go t L S h k z
        | some false => rz_go (pc + 3) L S h k z
        | none => none
      | none => none
    | _ => none
  | .ifnull off => match S with
    | x :: S => bif Nat.beq x.1 5 then match rz_jp pc off with
        | some t => rz_go t L S h k z
        | none => none
      else bif Nat.beq x.1 4 then rz_go (pc + 3) L S h k z else none
    | _ => none
  | .ifnonnull off => match S with
    | x :: S => bif Nat.beq x.1 4 then match rz_jp pc off with
        | some t => rz_go t L S h k z
        | none => none
      else bif Nat.beq x.1 5 then rz_go (pc + 3) L S h k z else none
    | _ => none
  | .tableswitch d lo hi offs => match S with
    | x :: S => match rz_itv B x with
      | some (l, u) => bif decide (hi < l) || decide (u < lo) then match rz_jp pc d with
          | some t => rz_go t L S h k z
          | none => none
        else bif decide (l = u) && (decide (lo ≤ l) && decide (l ≤ hi)) then match rz_nth offs.toList (l - lo).toNat with
          | some off => match rz_jp pc off with
            | some t => rz_go t L S h k z
            | none => none
          | none => none
        else none
      | none => none
    | _ => none
  | .arraylength => match S with
    | x :: S => bif Nat.beq x.1 8 then rz_go (pc + 1) L (rz_nm B 8 :: S) h k z else match rz_cell h x with
      | some e => bif (Nat.beq e.1 1 || (Nat.beq e.1 2 || (Nat.beq e.1 3 || rz_isR e.1))) && decide ((e.2.1 : Int) ≤ 100000) then rz_go (pc + 1) L ((0, (e.2.1 : Int)) :: S) h k z else none
      | none => none
    | _ => none
  | .iaload => match S with
    | i :: x :: S => bif Nat.beq x.1 8 then bif rz_k i && decide (0 ≤ i.2) then match rz_nth B 8 with
          | some (lo, _) => bif decide (i.2 < lo) then rz_go (pc + 1) L (rz_nm B i.2.toNat :: S) h k z else none
          | none => none
        else none
      else match rz_ld h (rz_is 1) i x with
        | some v => rz_go (pc + 1) L (v :: S) h k z
        | none => none
    | _ => none
  | .laload => match S with
    | i :: x :: S => match rz_ld h (rz_is 2) i x with
        | some v => rz_go (pc + 1) L (v :: S) h k z
        | none => none
    | _ => none
  | .baload => match S with
    | i :: x :: S => match rz_ld h (rz_is 3) i x with
        | some v => rz_go (pc + 1) L (v :: S) h k z
        | none => none
    | _ => none
  | .aaload => match S with
    | i :: x :: S => match rz_ld h rz_isR i x with
        | some v => rz_go (pc + 1) L (v :: S) h k z
        | none => none
    | _ => none
  | .iastore => match S with
    | v :: i :: x :: S => bif rz_isI v then match rz_as h (rz_is 1) v i x with
        | some h => rz_go (pc + 1) L S h k z
        | none => none
      else none
    | _ => none
  | .lastore => match S with
    | v :: i :: x :: S => bif rz_isL v then match rz_as h (rz_is 2) v i x with
        | some h => rz_go (pc + 1) L S h k z
        | none => none
      else none
    | _ => none
  | .bastore => match S with
    | v :: i :: x :: S => bif rz_b01 v then match rz_as h (rz_is 3) v i x with
        | some h => rz_go (pc + 1) L S h k z
        | none => none
      else none
    | _ => none
  | .aastore => match S with
    | v :: i :: x :: S => match rz_cell h v with
      | some e => bif Nat.beq e.1 0 && rz_isR (e.2.1 + 4) then match rz_as h (rz_is (e.2.1 + 4)) v i x with
          | some h => rz_go (pc + 1) L S h k z
          | none => none
        else none
      | none => none
    | _ => none
  | .getfield _ => match S with
    | x :: S => match rz_cell h x with
      | some e => bif Nat.beq e.1 0 && Nat.beq e.2.1 a then match rz_nth e.2.2.1 b.toNat with
          | some v => rz_go (pc + 3) L (v :: S) h k z
          | none => none
        else none
      | none => none
    | _ => none
  | .putfield _ => match S with
    | v :: x :: S => match rz_cell h x with
      | some e => bif Nat.beq e.1 0 && (Nat.beq e.2.1 a && (Nat.blt b.toNat e.2.2.1.length && (Nat.ble e.2.2.1.length (N a) && rz_fit (fty a b.toNat) v))) then
          rz_go (pc + 3) L S (rz_set h x.2.toNat (0, a, rz_set e.2.2.1 b.toNat v, e.2.2.2)) k z
        else none
      | none => none
    | _ => none
  | .new _ => bif Nat.ble (k + 1) K && Nat.ble (z + N a) Z then rz_go (pc + 3) L ((4, (h.length : Int)) :: S) (h ++ [(0, a, df a, [])]) (k + 1) (z + N a) else none
  | .newarray t => match S with
    | n :: S => bif rz_k n && (decide (0 ≤ n.2) && (decide (n.2 ≤ 100000) && (Nat.ble (k + 1) K && Nat.ble (z + n.2.toNat) Z))) then match t with
        | .int => rz_go (pc + 2) L ((4, (h.length : Int)) :: S) (h ++ [(1, n.2.toNat, [], [])]) (k + 1) (z + n.2.toNat)
        | .long => rz_go (pc + 2) L ((4, (h.length : Int)) :: S) (h ++ [(2, n.2.toNat, [], [])]) (k + 1) (z + n.2.toNat)
        | .boolean => rz_go (pc + 2) L ((4, (h.length : Int)) :: S) (h ++ [(3, n.2.toNat, [], [])]) (k + 1) (z + n.2.toNat)
        | _ => none
      else none
    | _ => none
  | .anewarray _ => match S with
    | n :: S => bif rz_k n && (decide (0 ≤ n.2) && (decide (n.2 ≤ 100000) && (Nat.ble (k + 1) K && Nat.ble (z + n.2.toNat) Z))) then
        rz_go (pc + 3) L ((4, (h.length : Int)) :: S) (h ++ [(a + 4, n.2.toNat, [], [])]) (k + 1) (z + n.2.toNat)
      else none
    | _ => none
  | .ireturn => match S with
    | [v] => bif rz_isI v && (!rb || rz_b01 v) then some (.inr ((1, v), h, k, z)) else none
    | _ => none
  | .lreturn => match S with
    | [v] => bif rz_isL v then some (.inr ((1, v), h, k, z)) else none
    | _ => none
  | .areturn => match S with
    | [v] => bif rz_isA v then some (.inr ((1, v), h, k, z)) else none
    | _ => none
  | .return_ => match S with
    | [] => some (.inr ((0, (0, 0)), h, k, z))
    | _ => none
  | .invokespecial _ => bif decide (b = 1) then match S with
      | x :: S => bif Nat.beq x.1 4 && Nat.ble (rz_cats S) 8 then rz_go (pc + 3) L S h k z else none
      | [] => none
    else match rz_tk (np a) [] S with
      | some (x :: as, S) => bif Nat.beq x.1 4 && (Nat.ble (rz_cats S) 8 && (Nat.ble k K && Nat.ble z Z)) then match call a (x :: as) h (K - k) (Z - z) with
          | some ((0, _), h', k', z') => rz_go (pc + 3) L S h' (k + k') (z + z')
          | _ => none
        else none
      | _ => none
  | .invokevirtual _ => match rz_tk (np a) [] S with
      | some (x :: as, S) => match rz_cell h x with
        | some e => bif Nat.beq e.1 0 && (Nat.beq e.2.1 (mo a) && (Nat.ble (rz_cats S) 8 && (Nat.ble k K && Nat.ble z Z))) then match call a (x :: as) h (K - k) (Z - z) with
            | some ((0, _), h', k', z') => rz_go (pc + 3) L S h' (k + k') (z + z')
            | some ((1, v), h', k', z') => rz_go (pc + 3) L (v :: S) h' (k + k') (z + z')
            | some ((_, v), h', k', z') => match rz_hd hh pc with
              | some (t, ct) => bif Nat.beq ct 13 then rz_go t L [v] h' (k + k') (z + z') else none
              | none => some (.inr ((2, v), h', k + k', z + z'))
            | none => none
          else none
        | none => none
      | _ => none
  | .invokestatic _ => match rz_tk (np a) [] S with
      | some (as, S) => bif Nat.ble (rz_cats S) 8 && (Nat.ble k K && Nat.ble z Z) then match call a as h (K - k) (Z - z) with
          | some ((0, _), h', k', z') => rz_go (pc + 3) L S h' (k + k') (z + z')
          | some ((1, v), h', k', z') => rz_go (pc + 3) L (v :: S) h' (k + k') (z + z')
          | some ((_, v), h', k', z') => match rz_hd hh pc with
            | some (t, ct) => bif Nat.beq ct 13 then rz_go t L [v] h' (k + k') (z + z') else none
            | none => some (.inr ((2, v), h', k + k', z + z'))
          | none => none
        else none
      | _ => none
  | _ => none
