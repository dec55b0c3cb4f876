section
/-! what a row of cells is worth: f 0 .. the powers, f 48 .. 1 where left out, f 96 .. reach, gap, rank, A, B, f 101 the mode; n cells -/
def w_ins (v : Int32) : List Int32 → List Int32
  | [] => [v]
  | a :: l => if v < a then a :: w_ins v l else v :: a :: l
def w_rep (w : Nat → Int32) : List Int32 → Prop
  | [] => True
  | a :: l => w l.length = a ∧ w_rep w l
def w_nth : List Int32 → Nat → Int32
  | [], _ => 0
  | a :: l, k => if k = l.length then a else w_nth l k
def w_from (f : Nat → Int32) : Nat → Nat → List Int32 → List Int32
  | 0, _, L => L
  | t + 1, i, L => w_from f t (i + 1) (if f (48 + i) = 0 then w_ins (f i) L else L)
def w_win (n : Nat) (f : Nat → Int32) (lo hi : Int) (L : List Int32) : List Int32 := w_from f (min (hi + 1) n - max lo 0).toNat (max lo 0).toNat L
def w_ahead (n : Nat) (f : Nat → Int32) (i : Nat) (L : List Int32) : List Int32 := w_win n f (i - (f 97).toInt - (f 96).toInt) (i - (f 97).toInt - 1) L
def w_behind (n : Nat) (f : Nat → Int32) (i : Nat) (L : List Int32) : List Int32 := w_win n f (i + (f 97).toInt + 1) (i + (f 97).toInt + (f 96).toInt) L
def w_side (n : Nat) (f : Nat → Int32) (i : Nat) (side : Int) : List Int32 := if side = 0 then w_ahead n f i [] else if side = 1 then w_behind n f i [] else w_behind n f i (w_ahead n f i [])
def w_rank (K : Nat) (L : List Int32) : Int32 := if L = [] then -4 else w_nth L (min L.length K - 1)
def w_floor (n : Nat) (f : Nat → Int32) (i : Nat) : Int32 :=
  if f 101 = 0 then w_rank (f 98).toInt.toNat (w_side n f i 2)
  else
    if w_rank (f 98).toInt.toNat (w_side n f i 0) = -4 then w_rank (f 98).toInt.toNat (w_side n f i 1)
    else if w_rank (f 98).toInt.toNat (w_side n f i 1) = -4 then w_rank (f 98).toInt.toNat (w_side n f i 0)
    else if f 101 = 1 then (if w_rank (f 98).toInt.toNat (w_side n f i 0) < w_rank (f 98).toInt.toNat (w_side n f i 1) then w_rank (f 98).toInt.toNat (w_side n f i 1) else w_rank (f 98).toInt.toNat (w_side n f i 0))
    else (if w_rank (f 98).toInt.toNat (w_side n f i 1) < w_rank (f 98).toInt.toNat (w_side n f i 0) then w_rank (f 98).toInt.toNat (w_side n f i 1) else w_rank (f 98).toInt.toNat (w_side n f i 0))
def w_al (n : Nat) (f : Nat → Int32) (i : Nat) : Bool := decide (f (48 + i) = 0 ∧ w_floor n f i ≠ -4 ∧ f 99 * w_floor n f i < f 100 * f i)
def w_ca (al : Nat → Bool) : Nat → Nat
  | 0 => 0
  | k + 1 => w_ca al k + (if al k = true then 1 else 0)
def w_bs (al : Nat → Bool) : Nat → Nat
  | 0 => 0
  | k + 1 => w_bs al k + (if al k = true ∧ (k = 0 ∨ al (k - 1) = false) then 1 else 0)
def w_B (al : Nat → Bool) (n b s e : Nat) : Prop := s ≤ e ∧ e < n ∧ (∀ k, s ≤ k → k ≤ e → al k = true) ∧ (s = 0 ∨ al (s - 1) = false) ∧ (e + 1 = n ∨ al (e + 1) = false) ∧ w_bs al s = b
def w_P (f : Nat → Int32) (s e q : Nat) : Prop := s ≤ q ∧ q ≤ e ∧ (∀ k, s ≤ k → k ≤ e → f k ≤ f q) ∧ (∀ k, s ≤ k → k < q → f k < f q)
/-- the places of a row of n cells that count -/
def w_pl (n k : Nat) : Prop := k < n ∨ (48 ≤ k ∧ k < 48 + n) ∨ (96 ≤ k ∧ k < 102)
def w_lo (k : Nat) : Int := [1, 0, 1, 1, 1].getD k 0
def w_hi (k : Nat) : Int := [6, 3, 12, 40, 40].getD k 0
def w_V (n : Nat) (f : Nat → Int32) : Prop := (∀ k, k < n → 0 ≤ (f k).toInt ∧ (f k).toInt ≤ 99) ∧ (∀ k, k < n → f (48 + k) = 0 ∨ f (48 + k) = 1) ∧ (∀ k, k < 5 → w_lo k ≤ (f (96 + k)).toInt ∧ (f (96 + k)).toInt ≤ w_hi k) ∧ 0 ≤ (f 101).toInt ∧ (f 101).toInt ≤ 2
/-- the class's row, in that form -/
def w_row (x : IS) (k : Nat) : Int32 := if k < 48 then x 8 k else if k < 96 then x 9 (k - 48) else if k < 101 then x 10 (k - 96) else x 14 0
/-- one kept change: G is what F was before it -/
def w_U (n : Nat) (kind pl v : Int32) (F G : Nat → Int32) : Prop :=
  w_V n G ∧
  ((kind = 0 ∧ ∃ a : Nat, a < n ∧ pl = iI a ∧ v = G a ∧ ∀ k, w_pl n k → k ≠ a → G k = F k) ∨
   (kind = 1 ∧ ∃ a : Nat, a < n ∧ pl = iI a ∧ v = G (48 + a) ∧ ∀ k, w_pl n k → k ≠ 48 + a → G k = F k) ∨
   (kind = 2 ∧ ∃ a : Nat, a < 5 ∧ pl = iI a ∧ v = G (96 + a) ∧ ∀ k, w_pl n k → k ≠ 96 + a → G k = F k) ∨
   (kind = 3 ∧ v = G 101 ∧ ∀ k, w_pl n k → k ≠ 101 → G k = F k) ∨
   (kind = 4 ∧ v = G 0 ∧ pl = G 48 ∧ (∀ k, k + 1 < n → G (k + 1) = F k ∧ G (48 + (k + 1)) = F (48 + k)) ∧ ∀ k, 96 ≤ k → k < 102 → G k = F k))
/-- the reference's row as it was at level i of p -/
def w_S (y : IS) (p i : Nat) : Nat → Int32 := if i < p then fun k => y 6 (102 * i + k) else y 5
def q_It (x y : IS) : Prop := ∃ len : Nat, len ≤ 200 ∧ x 2 0 = iI len ∧ y 0 0 = iI len ∧ ∀ k, k < len → x 0 k = y 1 k
def q_Ir (n : Nat) (x y : IS) : Prop := 1 ≤ n ∧ n ≤ 48 ∧ x 13 0 = iI n ∧ y 2 0 = iI n ∧ w_V n (y 5) ∧ ∀ k, w_pl n k → w_row x k = y 5 k
def q_Ip (n : Nat) (x y : IS) : Prop := ∃ p : Nat, p ≤ 6 ∧ x 28 0 = iI p ∧ y 7 0 = iI p ∧ ∀ i, i < p → w_U n (x 25 i) (x 26 i) (x 27 i) (w_S y p (i + 1)) (w_S y p i)
def w_sum (f : Nat → Int32) : Nat → Int
  | 0 => 0
  | k + 1 => w_sum f k + (f k).toInt
def q_Id (x y : IS) : Prop := (∀ v, v < 8 → x 23 v = y 4 v ∧ 0 ≤ (y 4 v).toInt ∧ (y 4 v).toInt ≤ 16) ∧ x 24 0 = iI (w_sum (y 4) 8) ∧ 1 ≤ w_sum (y 4) 8 ∧ w_sum (y 4) 8 ≤ 16
def q_Ica (n : Nat) (x : IS) (f : Nat → Int32) : Prop :=
  (∀ i, i < n → x 16 i = w_floor n f i) ∧ (∀ i, i < n → x 17 i = if w_al n f i = true then iI (w_bs (w_al n f) (i + 1) - 1) else -4) ∧
  x 21 0 = iI (w_ca (w_al n f) n) ∧ x 22 0 = iI (w_bs (w_al n f) n) ∧
  ∀ b, b < w_bs (w_al n f) n → ∃ s e q : Nat, w_B (w_al n f) n b s e ∧ w_P f s e q ∧ x 18 b = iI s ∧ x 19 b = iI e ∧ x 20 b = iI q
def q_Ic (n : Nat) (x y : IS) : Prop := (x 15 0 = 0 ∨ x 15 0 = 1) ∧ (x 15 0 = 0 → q_Ica n x (y 5))
def q_I (x : IS) (j : JS) (y : IS) : Prop := q_It x y ∧ ∃ n, q_Ir n x y ∧ q_Ip n x y ∧ q_Id x y ∧ q_Ic n x y
end
