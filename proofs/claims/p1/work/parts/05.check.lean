/-! Weaker states: equal, or 'any' where something was known. -/
def rz_leV (a b : rz_V) : Bool := (Nat.beq a.1 b.1 && decide (a.2 = b.2)) || ((decide (b = (6, 0)) && rz_isI a) || (decide (b = (7, 0)) && rz_isL a))
def rz_leL : List rz_V → List rz_V → Bool
  | [], [] => true
  | a :: l, b :: m => rz_leV a b && rz_leL l m
  | _, _ => false
def rz_leA : List (Nat × rz_V) → List (Nat × rz_V) → Bool
  | [], [] => true
  | a :: l, b :: m => Nat.beq a.1 b.1 && (rz_leV a.2 b.2 && rz_leA l m)
  | _, _ => false
def rz_leE (a b : rz_E) : Bool := Nat.beq a.1 b.1 && (Nat.beq a.2.1 b.2.1 && (rz_leL a.2.2.1 b.2.2.1 && rz_leA a.2.2.2 b.2.2.2))
def rz_leH : List rz_E → List rz_E → Bool
  | [], [] => true
  | a :: l, b :: m => rz_leE a b && rz_leH l m
  | _, _ => false
def rz_leF (a b : rz_F) : Bool := Nat.beq a.1 b.1 && (rz_leA a.2.1 b.2.1 && (rz_leL a.2.2.1 b.2.2.1 && (rz_leH a.2.2.2.1 b.2.2.2.1 && (Nat.ble a.2.2.2.2.1 b.2.2.2.2.1 && Nat.ble a.2.2.2.2.2 b.2.2.2.2.2))))
/-- from f the law's frame comes, in n steps, to something that t covers -/
def rz_seg (n : Nat) (f t : rz_F) (B : rz_B) : Bool := match rz_runs (rz_ev B 12) B 600002 7302197 0 n f with
  | some g => rz_leF g t
  | none => false
/-- from f the law ends with 1 -/
def rz_end (f : rz_F) (B : rz_B) : Bool := match rz_run (rz_ev B 12) B 600002 7302197 0 200 f with
  | some r => decide (r.1 = (1, (0, 1))) && (Nat.ble r.2.2.1 600002 && Nat.ble r.2.2.2 7302197)
  | none => false
/-- boxes split as a list tells: (99, _) is an end, where P must hold; (k, c) splits the k-th bounds at c -/
def rz_lo (B : rz_B) (k : Nat) (c : Int) : rz_B := match rz_nth B k with
  | some (lo, _) => rz_set B k (lo, c - 1)
  | none => B
def rz_hi (B : rz_B) (k : Nat) (c : Int) : rz_B := match rz_nth B k with
  | some (_, hi) => rz_set B k (c, hi)
  | none => B
def rz_chk (P : rz_B → Bool) : Nat → List (Nat × Int) → rz_B → Option (List (Nat × Int))
  | 0, _, _ => none
  | _ + 1, [], _ => none
  | n + 1, q :: T, B => bif Nat.beq q.1 99 then (bif P B then some T else none) else match rz_chk P n T (rz_lo B q.1 q.2) with
    | none => none
    | some T' => rz_chk P n T' (rz_hi B q.1 q.2)
def rz_all (P : rz_B → Bool) (T : List (Nat × Int)) (B : rz_B) : Bool := match rz_chk P 1000 T B with
  | some _ => true
  | none => false
