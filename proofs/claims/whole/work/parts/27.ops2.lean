section
def w_sl (f : Nat → Int32) : Nat → Nat → Int32 → Int32
  | 0, _, a => a
  | t + 1, i, a => w_sl f t (i + 1) (a + f i)
theorem w_sl_c {f g : Nat → Int32} : ∀ (t i : Nat) (a : Int32), (∀ k, i ≤ k → k < i + t → f k = g k) → w_sl f t i a = w_sl g t i a := by
  intro t
  induction t with
  | zero => intro i a h; rfl
  | succ t ih =>
    intro i a h
    show w_sl f t (i + 1) (a + f i) = w_sl g t (i + 1) (a + g i)
    rw [h i (by omega) (by omega)]
    exact ih (i + 1) _ (fun k h1 h2 => h k (by omega) (by omega))
theorem howL {x : IS} {n : Nat} (hn : x 13 0 = iI n) (h48 : n ≤ 48) (k : Int32 → Option Int32) : ∀ (t fuel i : Nat) (a : Int32), i + t = n → t < fuel → f_X3_howManyLeft_L4 x k fuel a (iI i) = k (w_sl (x 9) t i a) := by
  intro t
  induction t with
  | zero =>
    intro fuel i a h1 h2
    obtain ⟨fuel, rfl⟩ : ∃ z, fuel = z + 1 := ⟨fuel - 1, by omega⟩
    show f_X3_howManyLeft_L4F x k (f_X3_howManyLeft_L4 x k fuel) a (iI i) = _
    simp (disch := omega) only [f_X3_howManyLeft_L4F, hn, w_sl, iI_lit, iI_neg, iI_lt, iI_le, iI_eq, iI_add, iI_sub, iI_mul, iI_cl, q_let_r, q_jn_r, q_b1_r, q_b2_r, q_b3_r, if_true, if_false, eq_self, q_gd_in, q_up_s, q_up_n, upd_s, upd_n, if_pos, if_neg]
  | succ t ih =>
    intro fuel i a h1 h2
    obtain ⟨fuel, rfl⟩ : ∃ z, fuel = z + 1 := ⟨fuel - 1, by omega⟩
    show f_X3_howManyLeft_L4F x k (f_X3_howManyLeft_L4 x k fuel) a (iI i) = _
    simp (disch := omega) only [f_X3_howManyLeft_L4F, hn, Int.toNat_natCast, iI_lit, iI_neg, iI_lt, iI_le, iI_eq, iI_add, iI_sub, iI_mul, iI_cl, q_let_r, q_jn_r, q_b1_r, q_b2_r, q_b3_r, if_true, if_false, eq_self, q_gd_in, q_up_s, q_up_n, upd_s, upd_n, if_pos, if_neg]
    exact ih fuel (i + 1) _ (by omega) (by omega)
theorem howM {y : IS} {n : Nat} (hn : y 2 0 = iI n) (h48 : n ≤ 48) (k : Int32 → Option Int32) : ∀ (t fuel i : Nat) (a : Int32), i + t = n → t < fuel → f_X7_leftOut_L4 y k fuel a (iI i) = k (w_sl (fun i => y 5 (48 + i)) t i a) := by
  intro t
  induction t with
  | zero =>
    intro fuel i a h1 h2
    obtain ⟨fuel, rfl⟩ : ∃ z, fuel = z + 1 := ⟨fuel - 1, by omega⟩
    show f_X7_leftOut_L4F y k (f_X7_leftOut_L4 y k fuel) a (iI i) = _
    simp (disch := omega) only [f_X7_leftOut_L4F, hn, w_sl, iI_lit, iI_neg, iI_lt, iI_le, iI_eq, iI_add, iI_sub, iI_mul, iI_cl, q_let_r, q_jn_r, q_b1_r, q_b2_r, q_b3_r, if_true, if_false, eq_self, q_gd_in, q_up_s, q_up_n, upd_s, upd_n, if_pos, if_neg]
  | succ t ih =>
    intro fuel i a h1 h2
    obtain ⟨fuel, rfl⟩ : ∃ z, fuel = z + 1 := ⟨fuel - 1, by omega⟩
    show f_X7_leftOut_L4F y k (f_X7_leftOut_L4 y k fuel) a (iI i) = _
    simp (disch := omega) only [f_X7_leftOut_L4F, hn, show (48 + (i : Int)).toNat = 48 + i from by omega, iI_lit, iI_neg, iI_lt, iI_le, iI_eq, iI_add, iI_sub, iI_mul, iI_cl, q_let_r, q_jn_r, q_b1_r, q_b2_r, q_b3_r, if_true, if_false, eq_self, q_gd_in, q_up_s, q_up_n, upd_s, upd_n, if_pos, if_neg]
    exact ih fuel (i + 1) _ (by omega) (by omega)
theorem how_s {x y : IS} {n : Nat} (hr : q_Ir n x y) : ∃ r, f_X3_howManyLeft x = some r ∧ f_X7_leftOut y = some r := by
  obtain ⟨n1, n2, x13, y2, hV, hw⟩ := hr
  refine ⟨w_sl (x 9) n 0 0, howL x13 n2 _ n 1000 0 0 (by omega) (by omega), ?_⟩
  rw [w_sl_c (g := fun i => y 5 (48 + i)) n 0 0 (fun k h1 h2 => by rw [← hw (48 + k) (Or.inr (Or.inl ⟨by omega, by omega⟩)), w_row_l x (by omega)])]
  exact howM y2 n2 _ n 1000 0 0 (by omega) (by omega)
theorem qt_leave : qs_leave q_I := by
  intro x j y hI a1 a2
  obtain ⟨ht, n, hr, ⟨p, hp, p28, p7, pch⟩, hd, hc⟩ := id hI
  obtain ⟨n1, n2, x13, y2, hV, hw⟩ := id hr
  obtain ⟨a, ha1, ha2, rfl⟩ := iI_of a1
  obtain ⟨b, hb1, hb2, rfl⟩ := iI_of a2
  by_cases hc1 : a < 0 ∨ n ≤ a
  · exact ⟨iI (-1), x, y, by simp (disch := omega) only [f_X6_leave, has_f x13 n2 hc1, iI_lit, iI_neg, iI_lt, iI_le, iI_eq, iI_add, iI_sub, iI_mul, iI_cl, q_let_r, q_jn_r, q_b1_r, q_b2_r, q_b3_r, if_true, if_false, eq_self, q_gd_in, q_up_s, q_up_n, upd_s, upd_n, if_pos, if_neg], by simp (disch := omega) only [f_X7_leave, isCell_f y2 n2 hc1, iI_lit, iI_neg, iI_lt, iI_le, iI_eq, iI_add, iI_sub, iI_mul, iI_cl, q_let_r, q_jn_r, q_b1_r, q_b2_r, q_b3_r, if_true, if_false, eq_self, q_gd_in, q_up_s, q_up_n, upd_s, upd_n, if_pos, if_neg], hI⟩
  by_cases hc2 : b < 0 ∨ 1 < b
  · refine ⟨iI (-1), x, y, ?_, by simp (disch := omega) only [f_X7_leave, isCell_t y2 n2, isIn_f, iI_lit, iI_neg, iI_lt, iI_le, iI_eq, iI_add, iI_sub, iI_mul, iI_cl, q_let_r, q_jn_r, q_b1_r, q_b2_r, q_b3_r, if_true, if_false, eq_self, q_gd_in, q_up_s, q_up_n, upd_s, upd_n, if_pos, if_neg], hI⟩
    by_cases hb0 : b < 0
    · simp (disch := omega) only [f_X6_leave, has_t x13 n2, iI_lit, iI_neg, iI_lt, iI_le, iI_eq, iI_add, iI_sub, iI_mul, iI_cl, q_let_r, q_jn_r, q_b1_r, q_b2_r, q_b3_r, if_true, if_false, eq_self, q_gd_in, q_up_s, q_up_n, upd_s, upd_n, if_pos, if_neg]
    · simp (disch := omega) only [f_X6_leave, has_t x13 n2, iI_lit, iI_neg, iI_lt, iI_le, iI_eq, iI_add, iI_sub, iI_mul, iI_cl, q_let_r, q_jn_r, q_b1_r, q_b2_r, q_b3_r, if_true, if_false, eq_self, q_gd_in, q_up_s, q_up_n, upd_s, upd_n, if_pos, if_neg]
  obtain ⟨i, rfl⟩ : ∃ i : Nat, a = i := ⟨a.toNat, by omega⟩
  have tk : (i : Int).toNat = i := Int.toNat_natCast i
  have t48 : (48 + (i : Int)).toNat = 48 + i := by omega
  have e8 : x 9 i = y 5 (48 + i) := by rw [← hw (48 + i) (Or.inr (Or.inl ⟨by omega, by omega⟩)), w_row_l x (by omega)]
  by_cases hc3 : y 5 (48 + i) = iI b
  · refine ⟨iI (-2), x, y, ?_, ?_, hI⟩
    · simp (disch := omega) only [f_X6_leave, has_t x13 n2, tk, e8, hc3, iI_lit, iI_neg, iI_lt, iI_le, iI_eq, iI_add, iI_sub, iI_mul, iI_cl, q_let_r, q_jn_r, q_b1_r, q_b2_r, q_b3_r, if_true, if_false, eq_self, q_gd_in, q_up_s, q_up_n, upd_s, upd_n, if_pos, if_neg]
    · simp (disch := omega) only [f_X7_leave, isCell_t y2 n2, isIn_t, becomes_no (y := y) (a := 48 + i) (v := iI b) (by omega) (by omega) (by rw [t48]; exact hc3), iI_lit, iI_neg, iI_lt, iI_le, iI_eq, iI_add, iI_sub, iI_mul, iI_cl, q_let_r, q_jn_r, q_b1_r, q_b2_r, q_b3_r, if_true, if_false, eq_self, q_gd_in, q_up_s, q_up_n, upd_s, upd_n, if_pos, if_neg]
  obtain ⟨x1, q, ex1, hq, c1, c2, c3, c4⟩ := keep_s hp p28 (iI 1) (iI i) (y 5 (48 + i))
  obtain ⟨y1, q', ey1, hq', d1, d2, d3, d4, d5⟩ := becomes_s (a := 48 + i) hp p7 (by omega) (by omega) (by rw [t48]; exact hc3)
  rw [t48] at ey1 d2
  obtain rfl : q' = q := by omega
  have x113 : x1 13 0 = iI n := by rw [c1 13 (by omega)]; exact x13
  have hset := setLeft_s (a := i) x113 n2 (by omega) (by omega) (iI b)
  rw [tk] at hset
  have hI2 : q_I (q_up (q_up x1 9 (upd (x1 9) i (iI b))) 15 (fun _ => iI 1)) j y1 ∧ q_Ir n (q_up (q_up x1 9 (upd (x1 9) i (iI b))) 15 (fun _ => iI 1)) y1 := by
    have hV2 : w_V n (y1 5) := by
      rw [d2]
      refine w_V_upd n2 hV (fun h => absurd h (by omega)) (fun _ _ => ?_) (fun h => absurd h (by omega)) (fun h => absurd h (by omega))
      rcases (show b = 0 ∨ b = 1 by omega) with rfl | rfl
      · exact Or.inl rfl
      · exact Or.inr rfl
    have hw2 : ∀ k, w_pl n k → w_row (q_up (q_up x1 9 (upd (x1 9) i (iI b))) 15 (fun _ => iI 1)) k = y1 5 k := by
      intro k hk
      rw [w_row_9 (by omega), d2]
      by_cases e : k = 48 + i
      · rw [if_pos e, e, upd_s]
      · rw [if_neg e, upd_n _ _ e, w_row_c (c1 8 (by omega)) (c1 9 (by omega)) (c1 10 (by omega)) (c1 14 (by omega))]; exact hw k hk
    refine ⟨w_change hI hr ?_ d1 ?_ hV2 hw2 ?_, n1, n2, ?_, ?_, hV2, hw2⟩
    · intro c h1 h2 h3 h4 h5 h6
      rw [q_up_n _ _ h6, q_up_n _ _ h3]; exact c1 c h1
    · rw [q_up_s]; rfl
    · refine ⟨q' + 1, by omega, ?_, ?_, ?_⟩
      · rw [q_up_n _ _ (by decide), q_up_n _ _ (by decide)]; exact c2
      · exact d3
      · refine w_push (x := x) n1 n2 hp pch hq ?_ ?_ d4 d5 (kd := iI 1) (pl := iI i) (v := y 5 (48 + i)) ?_
        · intro i hi
          simp (disch := omega) only [q_up_n]
          exact c3 i hi
        · simp (disch := omega) only [q_up_n]
          exact c4
        · refine ⟨hV, Or.inr (Or.inl ⟨rfl, i, by omega, rfl, rfl, fun k hk hne => ?_⟩)⟩
          rw [d2, upd_n _ _ hne]
    · rw [q_up_n _ _ (by decide), q_up_n _ _ (by decide)]; exact x113
    · rw [d1 2 (by decide) (by decide) (by decide)]; exact y2
  obtain ⟨r, hr1, hr2⟩ := how_s hI2.2
  have hne2 : ¬ y 5 (48 + i) = iI (-2) := by
    rcases hV.2.1 i (by omega) with h | h <;> rw [h] <;> decide
  refine ⟨r, _, y1, ?_, ?_, hI2.1⟩
  · simp (disch := omega) only [f_X6_leave, has_t x13 n2, tk, e8, hc3, q_b1_s ex1, hset, hr1, iI_lit, iI_neg, iI_lt, iI_le, iI_eq, iI_add, iI_sub, iI_mul, iI_cl, q_let_r, q_jn_r, q_b1_r, q_b2_r, q_b3_r, if_true, if_false, eq_self, q_gd_in, q_up_s, q_up_n, upd_s, upd_n, if_pos, if_neg]
  · simp (disch := omega) only [f_X7_leave, isCell_t y2 n2, isIn_t, q_b2_s ey1, hne2, hr2, iI_lit, iI_neg, iI_lt, iI_le, iI_eq, iI_add, iI_sub, iI_mul, iI_cl, q_let_r, q_jn_r, q_b1_r, q_b2_r, q_b3_r, if_true, if_false, eq_self, q_gd_in, q_up_s, q_up_n, upd_s, upd_n, if_pos, if_neg]
end
