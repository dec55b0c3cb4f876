section
/-! whole numbers as Int32 -/
def iI (z : Int) : Int32 := Int32.ofInt z
theorem iI_toInt {z : Int} (h1 : -2147483648 ≤ z) (h2 : z < 2147483648) : (iI z).toInt = z := Int32.toInt_ofInt_of_le h1 (by simpa using h2)
theorem iI_self (v : Int32) : iI v.toInt = v := Int32.ofInt_toInt v
theorem i32_lo (v : Int32) : -2147483648 ≤ v.toInt := Int32.le_toInt v
theorem i32_hi (v : Int32) : v.toInt < 2147483648 := Int32.toInt_lt v
theorem iI_of (v : Int32) : ∃ z : Int, -2147483648 ≤ z ∧ z < 2147483648 ∧ v = iI z := ⟨v.toInt, i32_lo v, i32_hi v, (iI_self v).symm⟩
theorem iI_lt {a b : Int} (h1 : -2147483648 ≤ a) (h2 : a < 2147483648) (h3 : -2147483648 ≤ b) (h4 : b < 2147483648) : (iI a < iI b) = (a < b) := by rw [Int32.lt_iff_toInt_lt, iI_toInt h1 h2, iI_toInt h3 h4]
theorem iI_le {a b : Int} (h1 : -2147483648 ≤ a) (h2 : a < 2147483648) (h3 : -2147483648 ≤ b) (h4 : b < 2147483648) : (iI a ≤ iI b) = (a ≤ b) := by rw [Int32.le_iff_toInt_le, iI_toInt h1 h2, iI_toInt h3 h4]
theorem iI_eq {a b : Int} (h1 : -2147483648 ≤ a) (h2 : a < 2147483648) (h3 : -2147483648 ≤ b) (h4 : b < 2147483648) : (iI a = iI b) = (a = b) := by rw [← Int32.toInt_inj, iI_toInt h1 h2, iI_toInt h3 h4]
theorem iI_add (a b : Int) : iI a + iI b = iI (a + b) := (Int32.ofInt_add a b).symm
theorem iI_sub (a b : Int) : iI a - iI b = iI (a - b) := (Int32.ofInt_sub a b).symm
theorem iI_mul (a b : Int) : iI a * iI b = iI (a * b) := (Int32.ofInt_mul a b).symm
theorem iI_neg (a : Int) : -iI a = iI (-a) := (Int32.ofInt_neg a).symm
theorem iI_cl {a : Int} (h1 : -2147483648 ≤ a) (h2 : a < 2147483648) : (iI a).toNatClampNeg = a.toNat := by
  show (iI a).toInt.toNat = _
  rw [iI_toInt h1 h2]
theorem iI_lit (n : Nat) : (OfNat.ofNat n : Int32) = iI (OfNat.ofNat n : Int) := rfl
theorem nI_iI (n : Nat) : nI n = iI (n : Int) := rfl
theorem iI_in {a : Int} {n : Nat} (h1 : 0 ≤ a) (h2 : a < n) (h3 : a < 2147483648) : q_in (iI a) n := by
  refine ⟨?_, ?_⟩
  · rw [show (0 : Int32) = iI 0 from rfl, iI_lt (by omega) h3 (by omega) (by omega)]
    omega
  · rw [iI_cl (by omega) h3]
    omega
theorem q_gd_in {β : Type} {a : Int} {n : Nat} {e : Option β} (h1 : 0 ≤ a) (h2 : a < n) (h3 : a < 2147483648) : q_gd (q_in (iI a) n) e = e := if_pos (iI_in h1 h2 h3)
/-! the words of the pure texts -/
theorem q_gd_t {β : Type} {c : Prop} [Decidable c] {e : Option β} (h : c) : q_gd c e = e := if_pos h
theorem q_b1_s {α β : Type} {o : Option α} {a : α} {k : α → Option β} (h : o = some a) : q_b1 o k = k a := by subst h; rfl
theorem q_b2_s {α γ β : Type} {o : Option (α × γ)} {a : α} {b : γ} {k : α → γ → Option β} (h : o = some (a, b)) : q_b2 o k = k a b := by subst h; rfl
theorem q_b3_s {α γ δ β : Type} {o : Option (α × γ × δ)} {a : α} {b : γ} {c : δ} {k : α → γ → δ → Option β} (h : o = some (a, b, c)) : q_b3 o k = k a b c := by subst h; rfl
theorem q_up_s (x : IS) (c : Nat) (f : Nat → Int32) : q_up x c f c = f := if_pos rfl
theorem q_up_n (x : IS) {c b : Nat} (f : Nat → Int32) (h : b ≠ c) : q_up x c f b = x b := if_neg h
theorem q_upJ_s (x : JS) (c : Nat) (f : Nat → Int64) : q_upJ x c f c = f := if_pos rfl
theorem q_upJ_n (x : JS) {c b : Nat} (f : Nat → Int64) (h : b ≠ c) : q_upJ x c f b = x b := if_neg h
theorem upd_s (f : Nat → Int32) (k : Nat) (v : Int32) : upd f k v k = v := by simp [upd]
theorem upd_n (f : Nat → Int32) {k b : Nat} (v : Int32) (h : b ≠ k) : upd f k v b = f b := by simp [upd, h]
theorem q_b1_r {α β : Type} (a : α) (k : α → Option β) : q_b1 (some a) k = k a := rfl
theorem q_b2_r {α γ β : Type} (a : α) (b : γ) (k : α → γ → Option β) : q_b2 (some (a, b)) k = k a b := rfl
theorem q_b3_r {α γ δ β : Type} (a : α) (b : γ) (c : δ) (k : α → γ → δ → Option β) : q_b3 (some (a, b, c)) k = k a b c := rfl
theorem q_let_r {α β : Type} (v : α) (k : α → β) : q_let v k = k v := rfl
theorem q_jn_r {α β : Type} (v : α) (k : α → β) : q_jn v k = k v := rfl
theorem isIn_t {a b c : Int} (h1 : b ≤ a) (h2 : a ≤ c) (h3 : -2147483648 ≤ b) (h4 : c < 2147483648) : f_X7_isIn (iI a) (iI b) (iI c) = some (iI 1) := by
  simp (disch := omega) only [f_X7_isIn, iI_lit, iI_neg, iI_lt, iI_le, iI_eq, iI_add, iI_sub, iI_mul, iI_cl, q_let_r, q_jn_r, q_b1_r, q_b2_r, q_b3_r, if_true, if_false, eq_self, q_gd_in, q_up_s, q_up_n, upd_s, upd_n, if_pos, if_neg]
theorem isIn_f {a b c : Int} (h1 : a < b ∨ c < a) (h3 : -2147483648 ≤ a) (h4 : a < 2147483648) (h5 : -2147483648 ≤ b) (h6 : b < 2147483648) (h7 : -2147483648 ≤ c) (h8 : c < 2147483648) : f_X7_isIn (iI a) (iI b) (iI c) = some (iI 0) := by
  by_cases h : a < b
  · simp (disch := omega) only [f_X7_isIn, iI_lit, iI_neg, iI_lt, iI_le, iI_eq, iI_add, iI_sub, iI_mul, iI_cl, q_let_r, q_jn_r, q_b1_r, q_b2_r, q_b3_r, if_true, if_false, eq_self, q_gd_in, q_up_s, q_up_n, upd_s, upd_n, if_pos, if_neg]
  · simp (disch := omega) only [f_X7_isIn, iI_lit, iI_neg, iI_lt, iI_le, iI_eq, iI_add, iI_sub, iI_mul, iI_cl, q_let_r, q_jn_r, q_b1_r, q_b2_r, q_b3_r, if_true, if_false, eq_self, q_gd_in, q_up_s, q_up_n, upd_s, upd_n, if_pos, if_neg]
theorem isPow_t {a : Int} (h1 : 0 ≤ a) (h2 : a ≤ 99) : f_X6_isPower (iI a) = some (iI 1) := by
  simp (disch := omega) only [f_X6_isPower, iI_lit, iI_neg, iI_lt, iI_le, iI_eq, iI_add, iI_sub, iI_mul, iI_cl, q_let_r, q_jn_r, q_b1_r, q_b2_r, q_b3_r, if_true, if_false, eq_self, q_gd_in, q_up_s, q_up_n, upd_s, upd_n, if_pos, if_neg]
theorem isPow_f {a : Int} (h1 : a < 0 ∨ 99 < a) (h3 : -2147483648 ≤ a) (h4 : a < 2147483648) : f_X6_isPower (iI a) = some (iI 0) := by
  by_cases h : a < 0
  · simp (disch := omega) only [f_X6_isPower, iI_lit, iI_neg, iI_lt, iI_le, iI_eq, iI_add, iI_sub, iI_mul, iI_cl, q_let_r, q_jn_r, q_b1_r, q_b2_r, q_b3_r, if_true, if_false, eq_self, q_gd_in, q_up_s, q_up_n, upd_s, upd_n, if_pos, if_neg]
  · simp (disch := omega) only [f_X6_isPower, iI_lit, iI_neg, iI_lt, iI_le, iI_eq, iI_add, iI_sub, iI_mul, iI_cl, q_let_r, q_jn_r, q_b1_r, q_b2_r, q_b3_r, if_true, if_false, eq_self, q_gd_in, q_up_s, q_up_n, upd_s, upd_n, if_pos, if_neg]
theorem has_t {x : IS} {n : Nat} {a : Int} (hn : x 13 0 = iI n) (h0 : n ≤ 48) (h1 : 0 ≤ a) (h2 : a < n) : f_X3_has x (iI a) = some (iI 1) := by
  simp (disch := omega) only [f_X3_has, hn, iI_lit, iI_neg, iI_lt, iI_le, iI_eq, iI_add, iI_sub, iI_mul, iI_cl, q_let_r, q_jn_r, q_b1_r, q_b2_r, q_b3_r, if_true, if_false, eq_self, q_gd_in, q_up_s, q_up_n, upd_s, upd_n, if_pos, if_neg]
theorem has_f {x : IS} {n : Nat} {a : Int} (hn : x 13 0 = iI n) (h0 : n ≤ 48) (h1 : a < 0 ∨ n ≤ a) (h3 : -2147483648 ≤ a) (h4 : a < 2147483648) : f_X3_has x (iI a) = some (iI 0) := by
  by_cases h : a < 0
  · simp (disch := omega) only [f_X3_has, hn, iI_lit, iI_neg, iI_lt, iI_le, iI_eq, iI_add, iI_sub, iI_mul, iI_cl, q_let_r, q_jn_r, q_b1_r, q_b2_r, q_b3_r, if_true, if_false, eq_self, q_gd_in, q_up_s, q_up_n, upd_s, upd_n, if_pos, if_neg]
  · simp (disch := omega) only [f_X3_has, hn, iI_lit, iI_neg, iI_lt, iI_le, iI_eq, iI_add, iI_sub, iI_mul, iI_cl, q_let_r, q_jn_r, q_b1_r, q_b2_r, q_b3_r, if_true, if_false, eq_self, q_gd_in, q_up_s, q_up_n, upd_s, upd_n, if_pos, if_neg]
theorem isCell_t {y : IS} {n : Nat} {a : Int} (hn : y 2 0 = iI n) (h0 : n ≤ 48) (h1 : 0 ≤ a) (h2 : a < n) : f_X7_isCell y (iI a) = some (iI 1) := by
  simp (disch := omega) only [f_X7_isCell, hn, isIn_t, iI_lit, iI_neg, iI_lt, iI_le, iI_eq, iI_add, iI_sub, iI_mul, iI_cl, q_let_r, q_jn_r, q_b1_r, q_b2_r, q_b3_r, if_true, if_false, eq_self, q_gd_in, q_up_s, q_up_n, upd_s, upd_n, if_pos, if_neg]
theorem isCell_f {y : IS} {n : Nat} {a : Int} (hn : y 2 0 = iI n) (h0 : n ≤ 48) (h1 : a < 0 ∨ n ≤ a) (h3 : -2147483648 ≤ a) (h4 : a < 2147483648) : f_X7_isCell y (iI a) = some (iI 0) := by
  simp (disch := omega) only [f_X7_isCell, hn, isIn_f, iI_lit, iI_neg, iI_lt, iI_le, iI_eq, iI_add, iI_sub, iI_mul, iI_cl, q_let_r, q_jn_r, q_b1_r, q_b2_r, q_b3_r, if_true, if_false, eq_self, q_gd_in, q_up_s, q_up_n, upd_s, upd_n, if_pos, if_neg]
end
