section
theorem slideL {n : Nat} (h48 : n ≤ 48) (a1 v5 : Int32) (k : IS → Option (Int32 × IS)) : ∀ (t fuel : Nat) (a : Int) (y : IS), y 2 0 = iI n → 1 ≤ a → a + t = n → t < fuel → ∃ y' : IS, f_X7_slide_L25 a1 v5 k fuel (iI a) y = k y' ∧ (∀ c, c ≠ 5 → y' c = y c) ∧ (∀ i : Nat, (i : Int) + 1 < a → y' 5 i = y 5 i ∧ y' 5 (48 + i) = y 5 (48 + i)) ∧ (∀ i : Nat, a ≤ (i : Int) + 1 → i + 1 < n → y' 5 i = y 5 (i + 1) ∧ y' 5 (48 + i) = y 5 (48 + (i + 1))) ∧ ∀ i : Nat, 96 ≤ i → y' 5 i = y 5 i := by
  intro t
  induction t with
  | zero =>
    intro fuel a y hy h0 h1 h2
    obtain ⟨fuel, rfl⟩ : ∃ z, fuel = z + 1 := ⟨fuel - 1, by omega⟩
    refine ⟨y, ?_, fun _ _ => rfl, fun _ _ => ⟨rfl, rfl⟩, fun i h h' => by omega, fun _ _ => rfl⟩
    show f_X7_slide_L25F a1 v5 k (f_X7_slide_L25 a1 v5 k fuel) (iI a) y = _
    simp (disch := omega) only [f_X7_slide_L25F, hy, iI_lit, iI_neg, iI_lt, iI_le, iI_eq, iI_add, iI_sub, iI_mul, iI_cl, q_let_r, q_jn_r, q_b1_r, q_b2_r, q_b3_r, if_true, if_false, eq_self, q_gd_in, q_up_s, q_up_n, upd_s, upd_n, if_pos, if_neg]
  | succ t ih =>
    intro fuel a y hy h0 h1 h2
    obtain ⟨fuel, rfl⟩ : ∃ z, fuel = z + 1 := ⟨fuel - 1, by omega⟩
    obtain ⟨b, rfl⟩ : ∃ b : Nat, a = (b : Int) + 1 := ⟨(a - 1).toNat, by omega⟩
    have t1 : ((b : Int) + 1 - 1).toNat = b := by omega
    have t2 : ((b : Int) + 1).toNat = b + 1 := by omega
    have t3 : (47 + ((b : Int) + 1)).toNat = 48 + b := by omega
    have t4 : (48 + ((b : Int) + 1)).toNat = 48 + (b + 1) := by omega
    obtain ⟨y', e, p1, p2, p3, p4⟩ := ih fuel ((b : Int) + 1 + 1) (q_up (q_up y 5 (upd (y 5) b (y 5 (b + 1)))) 5 (upd (upd (y 5) b (y 5 (b + 1))) (48 + b) (y 5 (48 + (b + 1))))) (by simp (disch := omega) only [iI_lit, iI_neg, iI_lt, iI_le, iI_eq, iI_add, iI_sub, iI_mul, iI_cl, q_let_r, q_jn_r, q_b1_r, q_b2_r, q_b3_r, if_true, if_false, eq_self, q_gd_in, q_up_s, q_up_n, upd_s, upd_n, if_pos, if_neg]; exact hy) (by omega) (by omega) (by omega)
    refine ⟨y', ?_, fun c hc => ?_, fun i hi => ?_, fun i hi hi2 => ?_, fun i hi => ?_⟩
    · show f_X7_slide_L25F a1 v5 k (f_X7_slide_L25 a1 v5 k fuel) (iI ((b : Int) + 1)) y = _
      simp (disch := omega) only [f_X7_slide_L25F, hy, t1, t2, t3, t4, iI_lit, iI_neg, iI_lt, iI_le, iI_eq, iI_add, iI_sub, iI_mul, iI_cl, q_let_r, q_jn_r, q_b1_r, q_b2_r, q_b3_r, if_true, if_false, eq_self, q_gd_in, q_up_s, q_up_n, upd_s, upd_n, if_pos, if_neg]
      exact e
    · rw [p1 c hc]; simp (disch := omega) only [iI_lit, iI_neg, iI_lt, iI_le, iI_eq, iI_add, iI_sub, iI_mul, iI_cl, q_let_r, q_jn_r, q_b1_r, q_b2_r, q_b3_r, if_true, if_false, eq_self, q_gd_in, q_up_s, q_up_n, upd_s, upd_n, if_pos, if_neg]
    · obtain ⟨z1, z2⟩ := p2 i (by omega)
      rw [z1, z2]; simp (disch := omega) only [and_self, iI_lit, iI_neg, iI_lt, iI_le, iI_eq, iI_add, iI_sub, iI_mul, iI_cl, q_let_r, q_jn_r, q_b1_r, q_b2_r, q_b3_r, if_true, if_false, eq_self, q_gd_in, q_up_s, q_up_n, upd_s, upd_n, if_pos, if_neg]
    · by_cases hib : i = b
      · subst hib
        obtain ⟨z1, z2⟩ := p2 i (by omega)
        rw [z1, z2]; simp (disch := omega) only [and_self, iI_lit, iI_neg, iI_lt, iI_le, iI_eq, iI_add, iI_sub, iI_mul, iI_cl, q_let_r, q_jn_r, q_b1_r, q_b2_r, q_b3_r, if_true, if_false, eq_self, q_gd_in, q_up_s, q_up_n, upd_s, upd_n, if_pos, if_neg]
      · obtain ⟨z1, z2⟩ := p3 i (by omega) hi2
        rw [z1, z2]; simp (disch := omega) only [and_self, iI_lit, iI_neg, iI_lt, iI_le, iI_eq, iI_add, iI_sub, iI_mul, iI_cl, q_let_r, q_jn_r, q_b1_r, q_b2_r, q_b3_r, if_true, if_false, eq_self, q_gd_in, q_up_s, q_up_n, upd_s, upd_n, if_pos, if_neg]
    · rw [p4 i hi]; simp (disch := omega) only [iI_lit, iI_neg, iI_lt, iI_le, iI_eq, iI_add, iI_sub, iI_mul, iI_cl, q_let_r, q_jn_r, q_b1_r, q_b2_r, q_b3_r, if_true, if_false, eq_self, q_gd_in, q_up_s, q_up_n, upd_s, upd_n, if_pos, if_neg]
theorem w_row_sl {x : IS} {n : Nat} {v : Int32} {h : Nat → Int32} (n1 : 1 ≤ n) (n2 : n ≤ 48) (k : Nat) (hk : w_pl n k) :
    w_row (q_up (q_up (q_up (q_up (q_up x 8 (va_cpy (x 8) (x 8) 1 0 (n - 1))) 9 (va_cpy (x 9) (x 9) 1 0 (n - 1))) 8 (upd (va_cpy (x 8) (x 8) 1 0 (n - 1)) (n - 1) v)) 9 (upd (va_cpy (x 9) (x 9) 1 0 (n - 1)) (n - 1) (iI 0))) 15 h) k
    = if k < n then (if k + 1 < n then w_row x (k + 1) else v) else if k < 96 then (if k + 1 < 48 + n then w_row x (k + 1) else iI 0) else w_row x k := by
  rcases hk with hk | ⟨hk1, hk2⟩ | ⟨hk1, hk2⟩
  · rw [if_pos hk, w_row_p _ (by omega)]
    by_cases h1 : k + 1 < n
    · rw [if_pos h1, w_row_p _ (by omega)]
      simp (disch := omega) only [va_cpy_in, iI_lit, iI_neg, iI_lt, iI_le, iI_eq, iI_add, iI_sub, iI_mul, iI_cl, q_let_r, q_jn_r, q_b1_r, q_b2_r, q_b3_r, if_true, if_false, eq_self, q_gd_in, q_up_s, q_up_n, upd_s, upd_n, if_pos, if_neg]
      rw [show 1 + (k - 0) = k + 1 by omega]
    · rw [if_neg h1, show k = n - 1 by omega]
      simp (disch := omega) only [iI_lit, iI_neg, iI_lt, iI_le, iI_eq, iI_add, iI_sub, iI_mul, iI_cl, q_let_r, q_jn_r, q_b1_r, q_b2_r, q_b3_r, if_true, if_false, eq_self, q_gd_in, q_up_s, q_up_n, upd_s, upd_n, if_pos, if_neg]
  · obtain ⟨m, rfl⟩ : ∃ m, k = 48 + m := ⟨k - 48, by omega⟩
    rw [if_neg (by omega), if_pos (by omega), w_row_l _ (by omega)]
    by_cases h1 : m + 1 < n
    · rw [if_pos (by omega), show 48 + m + 1 = 48 + (m + 1) by omega, w_row_l _ (by omega)]
      simp (disch := omega) only [va_cpy_in, iI_lit, iI_neg, iI_lt, iI_le, iI_eq, iI_add, iI_sub, iI_mul, iI_cl, q_let_r, q_jn_r, q_b1_r, q_b2_r, q_b3_r, if_true, if_false, eq_self, q_gd_in, q_up_s, q_up_n, upd_s, upd_n, if_pos, if_neg]
      rw [show 1 + (m - 0) = m + 1 by omega]
    · rw [if_neg (by omega), show m = n - 1 by omega]
      simp (disch := omega) only [iI_lit, iI_neg, iI_lt, iI_le, iI_eq, iI_add, iI_sub, iI_mul, iI_cl, q_let_r, q_jn_r, q_b1_r, q_b2_r, q_b3_r, if_true, if_false, eq_self, q_gd_in, q_up_s, q_up_n, upd_s, upd_n, if_pos, if_neg]
  · rw [if_neg (by omega), if_neg (by omega)]
    unfold w_row
    simp (disch := omega) only [iI_lit, iI_neg, iI_lt, iI_le, iI_eq, iI_add, iI_sub, iI_mul, iI_cl, q_let_r, q_jn_r, q_b1_r, q_b2_r, q_b3_r, if_true, if_false, eq_self, q_gd_in, q_up_s, q_up_n, upd_s, upd_n, if_pos, if_neg]
theorem slideOn_s {x : IS} {n : Nat} (hn : x 13 0 = iI n) (n1 : 1 ≤ n) (n2 : n ≤ 48) (v : Int32) : f_X3_slideOn x v = some (q_up (q_up (q_up (q_up (q_up x 8 (va_cpy (x 8) (x 8) 1 0 (n - 1))) 9 (va_cpy (x 9) (x 9) 1 0 (n - 1))) 8 (upd (va_cpy (x 8) (x 8) 1 0 (n - 1)) (n - 1) v)) 9 (upd (va_cpy (x 9) (x 9) 1 0 (n - 1)) (n - 1) (iI 0))) 15 (fun _ => iI 1)) := by
  have g1 := cpyd (n := 48) (v := iI ((n : Int) - 1)) (m := (n : Int) - 1) rfl (by omega) (by omega) (by omega)
  have e1 : (1 : Int32).toNatClampNeg = 1 := by decide
  have e0 : (0 : Int32).toNatClampNeg = 0 := by decide
  have t1 : ((n : Int) - 1).toNat = n - 1 := by omega
  have es : iI (n : Int) - 1 = iI ((n : Int) - 1) := iI_sub _ 1
  unfold f_X3_slideOn
  simp (disch := omega) only [q_let_r, hn, es, has_t hn n2, q_b1_r]
  rw [if_neg (by decide), q_gd_t g1, q_gd_t g1]
  simp (disch := omega) only [e1, e0, t1, q_gd_in, q_up_s, q_up_n, iI_cl]
  rfl
theorem qt_slide : qs_slide q_I := by
  intro x j y hI a1
  obtain ⟨ht, n, hr, ⟨p, hp, p28, p7, pch⟩, hd, hc⟩ := id hI
  obtain ⟨n1, n2, x13, y2, hV, hw⟩ := id hr
  obtain ⟨b, hb1, hb2, rfl⟩ := iI_of a1
  by_cases hc2 : b < 0 ∨ 99 < b
  · exact ⟨iI (-1), x, y, by simp (disch := omega) only [f_X6_slide, isPow_f, iI_lit, iI_neg, iI_lt, iI_le, iI_eq, iI_add, iI_sub, iI_mul, iI_cl, q_let_r, q_jn_r, q_b1_r, q_b2_r, q_b3_r, if_true, if_false, eq_self, q_gd_in, q_up_s, q_up_n, upd_s, upd_n, if_pos, if_neg], by simp (disch := omega) only [f_X7_slide, isIn_f, iI_lit, iI_neg, iI_lt, iI_le, iI_eq, iI_add, iI_sub, iI_mul, iI_cl, q_let_r, q_jn_r, q_b1_r, q_b2_r, q_b3_r, if_true, if_false, eq_self, q_gd_in, q_up_s, q_up_n, upd_s, upd_n, if_pos, if_neg], hI⟩
  have e8 : x 8 0 = y 5 0 := by rw [← hw 0 (Or.inl (by omega)), w_row_p x (by omega)]
  have e9 : x 9 0 = y 5 48 := by rw [← hw 48 (Or.inr (Or.inl ⟨by omega, by omega⟩)), ← w_row_l x (k := 0) (by omega)]
  obtain ⟨x1, q, ex1, hq, c1, c2, c3, c4⟩ := keep_s hp p28 (iI 4) (y 5 48) (y 5 0)
  obtain ⟨y1, q', ey1, hq', d1, d2, d3, d4⟩ := keeps_s hp p7
  obtain rfl : q' = q := by omega
  have x113 : x1 13 0 = iI n := by rw [c1 13 (by omega)]; exact x13
  have y12 : y1 2 0 = iI n := by rw [d1 2 (by omega) (by omega)]; exact y2
  obtain ⟨y3, ey3, f1, f2, f3, f4⟩ := slideL n2 (iI b) (y 5 0) (fun x10 =>
        q_gd (q_in ((x10 2 0) - (1 : Int32)) 102) (
        q_let (q_up x10 5 (upd (x10 5) ((x10 2 0) - (1 : Int32)).toNatClampNeg (iI b))) fun x20 =>
        q_gd (q_in ((47 : Int32) + (x20 2 0)) 102) (
        q_let (q_up x20 5 (upd (x20 5) ((47 : Int32) + (x20 2 0)).toNatClampNeg (0 : Int32))) fun x22 =>
        some ((y 5 0), x22)))) (n - 1) 1000 1 y1 y12 (by omega) (by omega) (by omega)
  have y32 : y3 2 0 = iI n := by rw [f1 2 (by omega)]; exact y12
  have t1 : ((n : Int) - 1).toNat = n - 1 := by omega
  have t2 : (47 + (n : Int)).toNat = 48 + (n - 1) := by omega
  have t0 : (0 : Int).toNat = 0 := rfl
  have y15 : y1 5 = y 5 := d1 5 (by omega) (by omega)
  -- the reference's new row
  have hrow : ∀ k, w_pl n k → q_up (q_up y3 5 (upd (y3 5) (n - 1) (iI b))) 5 (upd (upd (y3 5) (n - 1) (iI b)) (48 + (n - 1)) (iI 0)) 5 k = if k < n then (if k + 1 < n then y 5 (k + 1) else iI b) else if k < 96 then (if k + 1 < 48 + n then y 5 (k + 1) else iI 0) else y 5 k := by
    intro k hk
    rw [q_up_s]
    rcases hk with hk | ⟨hk1, hk2⟩ | ⟨hk1, hk2⟩
    · rw [if_pos hk]
      by_cases h1 : k + 1 < n
      · rw [if_pos h1, upd_n _ _ (by omega), upd_n _ _ (by omega), (f3 k (by omega) h1).1, y15]
      · rw [if_neg h1, upd_n _ _ (by omega), show k = n - 1 by omega, upd_s]
    · obtain ⟨m, rfl⟩ : ∃ m, k = 48 + m := ⟨k - 48, by omega⟩
      rw [if_neg (by omega), if_pos (by omega)]
      by_cases h1 : m + 1 < n
      · rw [if_pos (by omega), upd_n _ _ (by omega), upd_n _ _ (by omega), (f3 m (by omega) h1).2, y15, show 48 + m + 1 = 48 + (m + 1) by omega]
      · rw [if_neg (by omega), show m = n - 1 by omega, upd_s]
    · rw [if_neg (by omega), if_neg (by omega), upd_n _ _ (by omega), upd_n _ _ (by omega), f4 k hk1, y15]
  refine ⟨y 5 0, _, q_up (q_up y3 5 (upd (y3 5) (n - 1) (iI b))) 5 (upd (upd (y3 5) (n - 1) (iI b)) (48 + (n - 1)) (iI 0)), ?_, ?_, w_change (x2 := q_up (q_up (q_up (q_up (q_up x1 8 (va_cpy (x1 8) (x1 8) 1 0 (n - 1))) 9 (va_cpy (x1 9) (x1 9) 1 0 (n - 1))) 8 (upd (va_cpy (x1 8) (x1 8) 1 0 (n - 1)) (n - 1) (iI b))) 9 (upd (va_cpy (x1 9) (x1 9) 1 0 (n - 1)) (n - 1) (iI 0))) 15 (fun _ => iI 1)) hI hr ?_ ?_ ?_ ?_ ?_ ?_⟩
  · simp (disch := omega) only [f_X6_slide, isPow_t, t0, e8, e9, q_b1_s ex1, slideOn_s x113 n1 n2, iI_lit, iI_neg, iI_lt, iI_le, iI_eq, iI_add, iI_sub, iI_mul, iI_cl, q_let_r, q_jn_r, q_b1_r, q_b2_r, q_b3_r, if_true, if_false, eq_self, q_gd_in, q_up_s, q_up_n, upd_s, upd_n, if_pos, if_neg]
  · simp (disch := omega) only [f_X7_slide, isIn_t, t0, q_b1_s ey1, iI_lit, iI_neg, iI_lt, iI_le, iI_eq, iI_add, iI_sub, iI_mul, iI_cl, q_let_r, q_jn_r, q_b1_r, q_b2_r, q_b3_r, if_true, if_false, eq_self, q_gd_in, q_up_s, q_up_n, upd_s, upd_n]
    rw [if_neg (by omega)]
    rw [show (iI 1 : Int32) = iI 1 from rfl] at ey3
    simp (disch := omega) only [t0, y32, t1, t2, iI_lit, iI_neg, iI_lt, iI_le, iI_eq, iI_add, iI_sub, iI_mul, iI_cl, q_let_r, q_jn_r, q_b1_r, q_b2_r, q_b3_r, if_true, if_false, eq_self, q_gd_in, q_up_s, q_up_n, upd_s, upd_n] at ey3 ⊢
    exact ey3
  · intro c h1 h2 h3 h4 h5 h6
    simp (disch := omega) only [q_up_n]; exact c1 c h1
  · intro c h5 h6 h7
    simp (disch := omega) only [q_up_n]; rw [f1 c h5]; exact d1 c h6 h7
  · rw [q_up_s]; rfl
  · obtain ⟨v1, v2, v3, v4⟩ := hV
    refine ⟨fun k hk => ?_, fun k hk => ?_, fun k hk => ?_, ?_⟩
    · rw [hrow k (Or.inl hk), if_pos hk]
      by_cases h1 : k + 1 < n
      · rw [if_pos h1]; exact v1 _ h1
      · rw [if_neg h1, iI_toInt hb1 hb2]; omega
    · rw [hrow (48 + k) (Or.inr (Or.inl ⟨by omega, by omega⟩)), if_neg (by omega), if_pos (by omega)]
      by_cases h1 : k + 1 < n
      · rw [if_pos (by omega), show 48 + k + 1 = 48 + (k + 1) by omega]; exact v2 _ h1
      · rw [if_neg (by omega)]; exact Or.inl rfl
    · rw [hrow (96 + k) (Or.inr (Or.inr ⟨by omega, by omega⟩)), if_neg (by omega), if_neg (by omega)]; exact v3 k hk
    · rw [hrow 101 (Or.inr (Or.inr ⟨by omega, by omega⟩)), if_neg (by omega), if_neg (by omega)]; exact v4
  · intro k hk
    rw [hrow k hk, w_row_sl n1 n2 k hk]
    have hwx : ∀ k, w_pl n k → w_row x1 k = y 5 k := fun k hk => by rw [w_row_c (c1 8 (by omega)) (c1 9 (by omega)) (c1 10 (by omega)) (c1 14 (by omega))]; exact hw k hk
    by_cases h1 : k < n
    · rw [if_pos h1, if_pos h1]
      by_cases h2 : k + 1 < n
      · rw [if_pos h2, if_pos h2]; exact hwx _ (Or.inl h2)
      · rw [if_neg h2, if_neg h2]
    · rw [if_neg h1, if_neg h1]
      by_cases h2 : k < 96
      · rw [if_pos h2, if_pos h2]
        by_cases h3 : k + 1 < 48 + n
        · rw [if_pos h3, if_pos h3]; exact hwx _ (by rcases hk with hk | hk | hk; exact absurd hk h1; exact Or.inr (Or.inl ⟨by omega, by omega⟩); omega)
        · rw [if_neg h3, if_neg h3]
      · rw [if_neg h2, if_neg h2]; exact hwx k hk
  · refine ⟨q' + 1, by omega, ?_, ?_, ?_⟩
    · simp (disch := omega) only [q_up_n]; exact c2
    · simp (disch := omega) only [q_up_n]; rw [f1 7 (by omega)]; exact d2
    · refine w_push (x := x) (y := y) n1 n2 hp pch hq ?_ ?_ ?_ ?_ (kd := iI 4) (pl := y 5 48) (v := y 5 0) ?_
      · intro i hi
        simp (disch := omega) only [q_up_n]
        exact c3 i hi
      · simp (disch := omega) only [q_up_n]
        exact c4
      · intro i hi k hk
        simp (disch := omega) only [q_up_n]; rw [f1 6 (by omega)]; exact d3 i hi k hk
      · intro k hk
        simp (disch := omega) only [q_up_n]; rw [f1 6 (by omega)]; exact d4 k hk
      · refine ⟨hV, Or.inr (Or.inr (Or.inr (Or.inr ⟨rfl, rfl, rfl, fun k hk => ⟨?_, ?_⟩, fun k hk hk2 => ?_⟩)))⟩
        · rw [hrow k (Or.inl (by omega)), if_pos (by omega), if_pos hk]
        · rw [hrow (48 + k) (Or.inr (Or.inl ⟨by omega, by omega⟩)), if_neg (by omega), if_pos (by omega), if_pos (by omega), show 48 + k + 1 = 48 + (k + 1) by omega]
        · rw [hrow k (Or.inr (Or.inr ⟨hk, hk2⟩)), if_neg (by omega), if_neg (by omega)]
end
