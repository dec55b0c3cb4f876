section
/-! what a text tells, on both sides -/
def w_Tc (c : Nat) (x y : IS) : Prop := c ≤ 48 ∧ x 6 0 = iI c ∧ y 8 0 = iI c ∧ (∀ i, i < c → x 3 i = y 10 i ∧ 0 ≤ (y 10 i).toInt ∧ (y 10 i).toInt ≤ 99) ∧ ∀ i, 48 ≤ i → i < 96 → y 10 i = 0
def w_Tl (x y : IS) : Prop := ∀ k, k < 5 → x 4 k = y 10 (96 + k) ∧ w_lo k ≤ (y 10 (96 + k)).toInt ∧ (y 10 (96 + k)).toInt ≤ w_hi k
def w_Tm (x y : IS) : Prop := x 7 0 = y 10 101 ∧ 0 ≤ (y 10 101).toInt ∧ (y 10 101).toInt ≤ 2
def w_Td (x y : IS) : Prop := ∃ m : Nat, m ≤ 8 ∧ y 9 0 = iI m ∧ (∀ v, v < 8 → x 5 v = if v < m then y 11 v else 0) ∧ (∀ v, v < 8 → 0 ≤ (x 5 v).toInt ∧ (x 5 v).toInt ≤ 16) ∧ 1 ≤ w_sum (x 5) 8 ∧ w_sum (x 5) 8 ≤ 16
def w_T (c : Nat) (x y : IS) : Prop := w_Tc c x y ∧ w_Tl x y ∧ w_Tm x y ∧ w_Td x y
theorem addC_t {x : IS} {c n : Nat} (h6 : x 6 0 = iI c) (h1 : 1 ≤ n) (h2 : c + n ≤ 48) : f_X5_addCells x (iI n) = some (1, q_up (q_up x 3 (va_cpy (x 1) (x 3) 0 c n)) 6 (fun _ => iI ((c + n : Nat) : Int))) := by
  have g : ¬ (0 : Int32) < 0 ∧ ¬ (iI (c : Int)) < 0 ∧ ¬ (iI (n : Int)) < 0 ∧ (0 : Int32).toNatClampNeg + (iI (n : Int)).toNatClampNeg ≤ 48 ∧ (iI (c : Int)).toNatClampNeg + (iI (n : Int)).toNatClampNeg ≤ 48 := by
    refine ⟨by decide, ?_, ?_, ?_, ?_⟩
    · simp (disch := omega) only [iI_lit, iI_neg, iI_lt, iI_le, iI_eq, iI_add, iI_sub, iI_mul, iI_cl, q_let_r, q_jn_r, q_b1_r, q_b2_r, q_b3_r, if_true, if_false, eq_self, q_gd_in, q_up_s, q_up_n, upd_s, upd_n]; omega
    · simp (disch := omega) only [iI_lit, iI_neg, iI_lt, iI_le, iI_eq, iI_add, iI_sub, iI_mul, iI_cl, q_let_r, q_jn_r, q_b1_r, q_b2_r, q_b3_r, if_true, if_false, eq_self, q_gd_in, q_up_s, q_up_n, upd_s, upd_n]; omega
    · simp (disch := omega) only [iI_lit, iI_neg, iI_lt, iI_le, iI_eq, iI_add, iI_sub, iI_mul, iI_cl, q_let_r, q_jn_r, q_b1_r, q_b2_r, q_b3_r, if_true, if_false, eq_self, q_gd_in, q_up_s, q_up_n, upd_s, upd_n]; show 0 + _ ≤ _; omega
    · simp (disch := omega) only [iI_lit, iI_neg, iI_lt, iI_le, iI_eq, iI_add, iI_sub, iI_mul, iI_cl, q_let_r, q_jn_r, q_b1_r, q_b2_r, q_b3_r, if_true, if_false, eq_self, q_gd_in, q_up_s, q_up_n, upd_s, upd_n]; omega
  unfold f_X5_addCells
  rw [if_neg (by rw [show (1 : Int32) = iI 1 from rfl, iI_lt (by omega) (by omega) (by omega) (by omega)]; omega), if_neg (by rw [show (48 : Int32) = iI 48 from rfl, iI_lt (by omega) (by omega) (by omega) (by omega)]; omega), h6, iI_add, if_pos (by rw [show (48 : Int32) = iI 48 from rfl, iI_le (by omega) (by omega) (by omega) (by omega)]; omega), q_gd_t g]
  have e0 : (0 : Int32).toNatClampNeg = 0 := by decide
  rw [iI_cl (by omega) (by omega), iI_cl (by omega) (by omega), e0, Int.toNat_natCast, Int.toNat_natCast, q_let_r, q_let_r, q_up_n _ _ (by decide), h6, iI_add]
  rfl
theorem addC_f {x : IS} {c n : Nat} (h6 : x 6 0 = iI c) (h1 : n ≤ 48) (h2 : c ≤ 48) (h3 : n = 0 ∨ 48 < c + n) : f_X5_addCells x (iI n) = some (0, x) := by
  by_cases h0 : n = 0
  · simp (disch := omega) only [f_X5_addCells, iI_lit, iI_neg, iI_lt, iI_le, iI_eq, iI_add, iI_sub, iI_mul, iI_cl, q_let_r, q_jn_r, q_b1_r, q_b2_r, q_b3_r, if_true, if_false, eq_self, q_gd_in, q_up_s, q_up_n, upd_s, upd_n, if_pos, if_neg]
  · simp (disch := omega) only [f_X5_addCells, h6, iI_lit, iI_neg, iI_lt, iI_le, iI_eq, iI_add, iI_sub, iI_mul, iI_cl, q_let_r, q_jn_r, q_b1_r, q_b2_r, q_b3_r, if_true, if_false, eq_self, q_gd_in, q_up_s, q_up_n, upd_s, upd_n, if_pos, if_neg]
theorem addC_4 (x : IS) : f_X5_addCells x (iI (-4)) = some (0, x) := by
  simp (disch := omega) only [f_X5_addCells, iI_lit, iI_neg, iI_lt, iI_le, iI_eq, iI_add, iI_sub, iI_mul, iI_cl, q_let_r, q_jn_r, q_b1_r, q_b2_r, q_b3_r, if_true, if_false, eq_self, q_gd_in, q_up_s, q_up_n, upd_s, upd_n, if_pos, if_neg]
theorem setL_l {x : IS} {l : List Int} (h5 : l.length = 5) (h1 : ∀ i, i < 5 → x 1 i = iI (l.getD i 0)) (hr : ∀ i, i < 5 → 0 ≤ l.getD i 0 ∧ l.getD i 0 ≤ 99) (K : IS → Option (Int32 × IS)) :
    ∀ (t fuel k : Nat), k + t = 5 → t < fuel → ((∀ i, k ≤ i → i < 5 → w_lo i ≤ l.getD i 0 ∧ l.getD i 0 ≤ w_hi i) → f_X5_setLookTo_L19 (iI 5) K fuel (iI k) x = K x) ∧ ((¬ ∀ i, k ≤ i → i < 5 → w_lo i ≤ l.getD i 0 ∧ l.getD i 0 ≤ w_hi i) → f_X5_setLookTo_L19 (iI 5) K fuel (iI k) x = some (0, x)) := by
  intro t
  induction t with
  | zero =>
    intro fuel k hk hf
    obtain rfl : k = 5 := by omega
    obtain ⟨fuel, rfl⟩ : ∃ z, fuel = z + 1 := ⟨fuel - 1, by omega⟩
    refine ⟨fun _ => ?_, fun hh => absurd (fun i h1 h2 => by omega) hh⟩
    show f_X5_setLookTo_L19F (iI 5) K (f_X5_setLookTo_L19 (iI 5) K fuel) (iI 5) x = _
    exact if_pos (by decide)
  | succ t ih =>
    intro fuel k hk hf
    obtain ⟨fuel, rfl⟩ : ∃ z, fuel = z + 1 := ⟨fuel - 1, by omega⟩
    obtain ⟨g1, g2⟩ := ih fuel (k + 1) (by omega) (by omega)
    have e := h1 k (by omega)
    have r := hr k (by omega)
    have st : ∀ w : Int, f_X6_isLook (iI k) (iI (l.getD k 0)) = some (iI w) → (w = 0 ∨ w = 1) → f_X5_setLookTo_L19 (iI 5) K (fuel + 1) (iI k) x = if w = 0 then some (0, x) else f_X5_setLookTo_L19 (iI 5) K fuel (iI ((k + 1 : Nat) : Int)) x := by
      intro w hw h01
      show f_X5_setLookTo_L19F (iI 5) K (f_X5_setLookTo_L19 (iI 5) K fuel) (iI k) x = _
      rcases h01 with rfl | rfl
      · simp (disch := omega) only [f_X5_setLookTo_L19F, Int.toNat_natCast, e, hw, iI_lit, iI_neg, iI_lt, iI_le, iI_eq, iI_add, iI_sub, iI_mul, iI_cl, q_let_r, q_jn_r, q_b1_r, q_b2_r, q_b3_r, if_true, if_false, eq_self, q_gd_in, q_up_s, q_up_n, upd_s, upd_n, if_pos, if_neg]
      · simp (disch := omega) only [f_X5_setLookTo_L19F, Int.toNat_natCast, e, hw, iI_lit, iI_neg, iI_lt, iI_le, iI_eq, iI_add, iI_sub, iI_mul, iI_cl, q_let_r, q_jn_r, q_b1_r, q_b2_r, q_b3_r, if_true, if_false, eq_self, q_gd_in, q_up_s, q_up_n, upd_s, upd_n, if_pos, if_neg]
        rfl
    by_cases hok : w_lo k ≤ l.getD k 0 ∧ l.getD k 0 ≤ w_hi k
    · have q := st 1 (isLook_t (by omega) (by omega) hok.1 hok.2) (Or.inr rfl)
      rw [q]
      refine ⟨fun hh => g1 fun i i1 i2 => hh i (by omega) i2, fun hh => g2 fun h2 => hh fun i i1 i2 => ?_⟩
      by_cases hi : i = k
      · subst hi; exact hok
      · exact h2 i (by omega) i2
    · have q := st 0 (isLook_f (by omega) (by omega) (by rw [Int.toNat_natCast]; omega) (by omega) (by omega)) (Or.inl rfl)
      rw [q]
      exact ⟨fun hh => absurd (hh k (Nat.le_refl _) (by omega)) hok, fun _ => rfl⟩
theorem setL_n {x : IS} {n : Int} (h : n ≠ 5) (h2 : -100 ≤ n) (h3 : n ≤ 100) : f_X5_setLookTo x (iI n) = some (0, x) := by
  simp (disch := omega) only [f_X5_setLookTo, iI_lit, iI_neg, iI_lt, iI_le, iI_eq, iI_add, iI_sub, iI_mul, iI_cl, q_let_r, q_jn_r, q_b1_r, q_b2_r, q_b3_r, if_true, if_false, eq_self, q_gd_in, q_up_s, q_up_n, upd_s, upd_n, if_pos, if_neg]
theorem setL_t {x : IS} {l : List Int} (h5 : l.length = 5) (h1 : ∀ i, i < 5 → x 1 i = iI (l.getD i 0)) (hr : ∀ i, i < 5 → 0 ≤ l.getD i 0 ∧ l.getD i 0 ≤ 99) (hok : ∀ i, i < 5 → w_lo i ≤ l.getD i 0 ∧ l.getD i 0 ≤ w_hi i) : f_X5_setLookTo x (iI 5) = some (1, q_up x 4 (va_cpy (x 1) (x 4) 0 0 5)) := by
  unfold f_X5_setLookTo
  rw [if_pos (by decide), if_pos (by decide)]
  refine ((setL_l h5 h1 hr _ 5 1000 0 rfl (by omega)).1 fun i _ hi => hok i hi).trans ?_
  rw [q_gd_t (by decide)]
  rfl
theorem setL_f {x : IS} {l : List Int} (h5 : l.length = 5) (h1 : ∀ i, i < 5 → x 1 i = iI (l.getD i 0)) (hr : ∀ i, i < 5 → 0 ≤ l.getD i 0 ∧ l.getD i 0 ≤ 99) (hok : ¬ ∀ i, i < 5 → w_lo i ≤ l.getD i 0 ∧ l.getD i 0 ≤ w_hi i) : f_X5_setLookTo x (iI 5) = some (0, x) := by
  unfold f_X5_setLookTo
  rw [if_pos (by decide), if_pos (by decide)]
  exact (setL_l h5 h1 hr _ 5 1000 0 rfl (by omega)).2 fun hh => hok fun i hi => hh i (by omega) hi
/-- the sum of the numbers k .. n - 1 -/
theorem setW_l {x : IS} {n : Nat} (hn : n ≤ 8) {g : Nat → Int} (h1 : ∀ i, i < n → x 1 i = iI (g i)) (K : Int32 → IS → Option (Int32 × IS)) (G : Nat → Int) (hG : ∀ i, i < n → G (i + 1) = G i + g i) :
    ∀ (t fuel k : Nat), k + t = n → t < fuel → f_X5_setWeightsTo_L24 (iI n) K fuel (iI (G k)) (iI k) x = K (iI (G n)) x := by
  intro t
  induction t with
  | zero =>
    intro fuel k hk hf
    obtain rfl : k = n := by omega
    obtain ⟨fuel, rfl⟩ : ∃ z, fuel = z + 1 := ⟨fuel - 1, by omega⟩
    show f_X5_setWeightsTo_L24F (iI k) K (f_X5_setWeightsTo_L24 (iI k) K fuel) (iI (G k)) (iI k) x = _
    simp (disch := omega) only [f_X5_setWeightsTo_L24F, iI_lit, iI_neg, iI_lt, iI_le, iI_eq, iI_add, iI_sub, iI_mul, iI_cl, q_let_r, q_jn_r, q_b1_r, q_b2_r, q_b3_r, if_true, if_false, eq_self, q_gd_in, q_up_s, q_up_n, upd_s, upd_n, if_pos, if_neg]
  | succ t ih =>
    intro fuel k hk hf
    obtain ⟨fuel, rfl⟩ : ∃ z, fuel = z + 1 := ⟨fuel - 1, by omega⟩
    have e := h1 k (by omega)
    have q := ih fuel (k + 1) (by omega) (by omega)
    rw [hG k (by omega)] at q
    show f_X5_setWeightsTo_L24F (iI n) K (f_X5_setWeightsTo_L24 (iI n) K fuel) (iI (G k)) (iI k) x = _
    simp (disch := omega) only [f_X5_setWeightsTo_L24F, Int.toNat_natCast, e, iI_lit, iI_neg, iI_lt, iI_le, iI_eq, iI_add, iI_sub, iI_mul, iI_cl, q_let_r, q_jn_r, q_b1_r, q_b2_r, q_b3_r, if_true, if_false, eq_self, q_gd_in, q_up_s, q_up_n, upd_s, upd_n, if_pos, if_neg]
    exact q
theorem fillW_l (k : IS → Option IS) : ∀ (t fuel a : Nat) (x : IS), a + t = 8 → t < fuel → ∃ x' : IS, f_J7_fill_53178__X5_weights_L5 0 k fuel (iI a) x = k x' ∧ (∀ c, c ≠ 5 → x' c = x c) ∧ (∀ i, a ≤ i → i < 8 → x' 5 i = 0) ∧ ∀ i, i < a → x' 5 i = x 5 i := by
  intro t
  induction t with
  | zero =>
    intro fuel a x ha hf
    obtain rfl : a = 8 := by omega
    obtain ⟨fuel, rfl⟩ : ∃ z, fuel = z + 1 := ⟨fuel - 1, by omega⟩
    refine ⟨x, ?_, fun _ _ => rfl, fun i h1 h2 => by omega, fun _ _ => rfl⟩
    show f_J7_fill_53178__X5_weights_L5F 0 k (f_J7_fill_53178__X5_weights_L5 0 k fuel) (iI (8 : Nat)) x = _
    exact if_pos (by decide)
  | succ t ih =>
    intro fuel a x ha hf
    obtain ⟨fuel, rfl⟩ : ∃ z, fuel = z + 1 := ⟨fuel - 1, by omega⟩
    obtain ⟨x', e, b1, b2, b3⟩ := ih fuel (a + 1) (q_up x 5 (upd (x 5) a 0)) (by omega) (by omega)
    refine ⟨x', ?_, fun c hc => (b1 c hc).trans (q_up_n _ _ hc), fun i i1 i2 => ?_, fun i hi => ?_⟩
    · show f_J7_fill_53178__X5_weights_L5F 0 k (f_J7_fill_53178__X5_weights_L5 0 k fuel) (iI a) x = _
      simp (disch := omega) only [f_J7_fill_53178__X5_weights_L5F, Int.toNat_natCast, iI_lit, iI_neg, iI_lt, iI_le, iI_eq, iI_add, iI_sub, iI_mul, iI_cl, q_let_r, q_jn_r, q_b1_r, q_b2_r, q_b3_r, if_true, if_false, eq_self, q_gd_in, q_up_s, q_up_n, upd_s, upd_n, if_pos, if_neg]
      exact e
    · by_cases hi : i = a
      · subst hi; rw [b3 i (by omega), q_up_s]; exact upd_s _ _ _
      · exact b2 i (by omega) i2
    · rw [b3 i (by omega), q_up_s]; exact upd_n _ _ (by omega)
theorem fillW_s (x : IS) : ∃ x' : IS, f_J7_fill_53178__X5_weights x 0 = some x' ∧ (∀ c, c ≠ 5 → x' c = x c) ∧ ∀ i, i < 8 → x' 5 i = 0 := by
  obtain ⟨x', e, b1, b2, -⟩ := fillW_l (fun x3 => some x3) 8 1000 0 x rfl (by omega)
  exact ⟨x', e, b1, fun i hi => b2 i (by omega) hi⟩
theorem setW_n {x : IS} {n : Int} (h : n < 2 ∨ 8 < n) (h2 : -100 ≤ n) (h3 : n ≤ 100) : f_X5_setWeightsTo x (iI n) = some (0, x) := by
  by_cases hc : n < 2
  · simp (disch := omega) only [f_X5_setWeightsTo, iI_lit, iI_neg, iI_lt, iI_le, iI_eq, iI_add, iI_sub, iI_mul, iI_cl, q_let_r, q_jn_r, q_b1_r, q_b2_r, q_b3_r, if_true, if_false, eq_self, q_gd_in, q_up_s, q_up_n, upd_s, upd_n, if_pos, if_neg]
  · simp (disch := omega) only [f_X5_setWeightsTo, iI_lit, iI_neg, iI_lt, iI_le, iI_eq, iI_add, iI_sub, iI_mul, iI_cl, q_let_r, q_jn_r, q_b1_r, q_b2_r, q_b3_r, if_true, if_false, eq_self, q_gd_in, q_up_s, q_up_n, upd_s, upd_n, if_pos, if_neg]
/-- the sum of the first k of a list -/
def w_lk (l : List Int) : Nat → Int
  | 0 => 0
  | k + 1 => w_lk l k + l.getD k 0
theorem w_lk_c (v : Int) (l : List Int) : ∀ k, w_lk (v :: l) (k + 1) = v + w_lk l k := by
  intro k
  induction k with
  | zero => show 0 + v = v + 0; omega
  | succ k ih =>
    show w_lk (v :: l) (k + 1) + l.getD k 0 = v + (w_lk l k + l.getD k 0)
    rw [ih]; omega
theorem w_lk_all : ∀ l : List Int, w_lk l l.length = w_ls l := by
  intro l
  induction l with
  | nil => rfl
  | cons v l ih =>
    show w_lk (v :: l) (l.length + 1) = v + w_ls l
    rw [w_lk_c, ih]
theorem w_lk_n {l : List Int} {n : Nat} (hn : l.length = n) : w_lk l n = w_ls l := by subst hn; exact w_lk_all l
theorem setW_t {x : IS} {l : List Int} {n : Nat} (hn : l.length = n) (h2 : 2 ≤ n) (h8 : n ≤ 8) (h1 : ∀ i, i < n → x 1 i = iI (l.getD i 0)) (s1 : 1 ≤ w_ls l) (s2 : w_ls l ≤ 16) :
    ∃ x' : IS, f_X5_setWeightsTo x (iI n) = some (1, x') ∧ (∀ c, c ≠ 5 → x' c = x c) ∧ ∀ v, v < 8 → x' 5 v = if v < n then x 1 v else 0 := by
  obtain ⟨z, e, z1, z2⟩ := fillW_s x
  have g : ¬ (0 : Int32) < 0 ∧ ¬ (0 : Int32) < 0 ∧ ¬ (iI (n : Int)) < 0 ∧ (0 : Int32).toNatClampNeg + (iI (n : Int)).toNatClampNeg ≤ 48 ∧ (0 : Int32).toNatClampNeg + (iI (n : Int)).toNatClampNeg ≤ 8 := by
    refine ⟨by decide, by decide, ?_, ?_, ?_⟩
    · simp (disch := omega) only [iI_lit, iI_neg, iI_lt, iI_le, iI_eq, iI_add, iI_sub, iI_mul, iI_cl, q_let_r, q_jn_r, q_b1_r, q_b2_r, q_b3_r, if_true, if_false, eq_self, q_gd_in, q_up_s, q_up_n, upd_s, upd_n]; omega
    · simp (disch := omega) only [iI_lit, iI_neg, iI_lt, iI_le, iI_eq, iI_add, iI_sub, iI_mul, iI_cl, q_let_r, q_jn_r, q_b1_r, q_b2_r, q_b3_r, if_true, if_false, eq_self, q_gd_in, q_up_s, q_up_n, upd_s, upd_n]; show 0 + _ ≤ _; omega
    · simp (disch := omega) only [iI_lit, iI_neg, iI_lt, iI_le, iI_eq, iI_add, iI_sub, iI_mul, iI_cl, q_let_r, q_jn_r, q_b1_r, q_b2_r, q_b3_r, if_true, if_false, eq_self, q_gd_in, q_up_s, q_up_n, upd_s, upd_n]; show 0 + _ ≤ _; omega
  refine ⟨q_up z 5 (va_cpy (z 1) (z 5) 0 0 n), ?_, fun c hc => (q_up_n _ _ hc).trans (z1 c hc), fun v hv => ?_⟩
  · unfold f_X5_setWeightsTo
    rw [if_neg (by rw [show (2 : Int32) = iI 2 from rfl, iI_lt (by omega) (by omega) (by omega) (by omega)]; omega), if_neg (by rw [show (8 : Int32) = iI 8 from rfl, iI_lt (by omega) (by omega) (by omega) (by omega)]; omega), if_pos (by rw [show (48 : Int32) = iI 48 from rfl, iI_le (by omega) (by omega) (by omega) (by omega)]; omega)]
    refine (setW_l h8 h1 _ (w_lk l) (fun i _ => rfl) n 1000 0 (by omega) (by omega)).trans ?_
    rw [w_lk_n hn, if_neg (by rw [show (1 : Int32) = iI 1 from rfl, iI_lt (by omega) (by omega) (by omega) (by omega)]; omega), if_pos (by rw [show (16 : Int32) = iI 16 from rfl, iI_le (by omega) (by omega) (by omega) (by omega)]; omega)]
    refine (q_b1_s e).trans ?_
    rw [q_gd_t g, q_let_r, iI_cl (by omega) (by omega), Int.toNat_natCast]
    rfl
  · rw [q_up_s]
    by_cases hvn : v < n
    · rw [va_cpy_in (by omega) (by omega), if_pos hvn, z1 1 (by decide)]
      congr 1; omega
    · rw [va_cpy_out (by omega), if_neg hvn]; exact z2 v hv
theorem setW_f {x : IS} {l : List Int} {n : Nat} (hn : l.length = n) (h2 : 2 ≤ n) (h8 : n ≤ 8) (h1 : ∀ i, i < n → x 1 i = iI (l.getD i 0)) (s0 : 0 ≤ w_ls l) (s3 : w_ls l ≤ 100000) (s1 : w_ls l < 1 ∨ 16 < w_ls l) :
    f_X5_setWeightsTo x (iI n) = some (0, x) := by
  unfold f_X5_setWeightsTo
  rw [if_neg (by rw [show (2 : Int32) = iI 2 from rfl, iI_lt (by omega) (by omega) (by omega) (by omega)]; omega), if_neg (by rw [show (8 : Int32) = iI 8 from rfl, iI_lt (by omega) (by omega) (by omega) (by omega)]; omega), if_pos (by rw [show (48 : Int32) = iI 48 from rfl, iI_le (by omega) (by omega) (by omega) (by omega)]; omega)]
  refine (setW_l h8 h1 _ (w_lk l) (fun i _ => rfl) n 1000 0 (by omega) (by omega)).trans ?_
  rw [w_lk_n hn]
  by_cases hc : w_ls l < 1
  · rw [if_pos (by rw [show (1 : Int32) = iI 1 from rfl, iI_lt (by omega) (by omega) (by omega) (by omega)]; omega)]
  · rw [if_neg (by rw [show (1 : Int32) = iI 1 from rfl, iI_lt (by omega) (by omega) (by omega) (by omega)]; omega), if_neg (by rw [show (16 : Int32) = iI 16 from rfl, iI_le (by omega) (by omega) (by omega) (by omega)]; omega)]
end
