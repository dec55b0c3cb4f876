section
theorem w_row_c {x x1 : IS} (h8 : x1 8 = x 8) (h9 : x1 9 = x 9) (h10 : x1 10 = x 10) (h14 : x1 14 = x 14) (k : Nat) : w_row x1 k = w_row x k := by unfold w_row; rw [h8, h9, h10, h14]
theorem w_row_8 {x : IS} {a : Nat} {v : Int32} {h : Nat → Int32} (ha : a < 48) (k : Nat) : w_row (q_up (q_up x 8 (upd (x 8) a v)) 15 h) k = if k = a then v else w_row x k := by
  by_cases hk : k = a
  · subst hk; simp (disch := omega) only [w_row, iI_lit, iI_neg, iI_lt, iI_le, iI_eq, iI_add, iI_sub, iI_mul, iI_cl, q_let_r, q_jn_r, q_b1_r, q_b2_r, q_b3_r, if_true, if_false, eq_self, q_gd_in, q_up_s, q_up_n, upd_s, upd_n, if_pos, if_neg]
  · rw [if_neg hk]
    unfold w_row
    simp (disch := omega) only [q_up_s, q_up_n, upd_n]
theorem w_row_9 {x : IS} {a : Nat} {v : Int32} {h : Nat → Int32} (ha : a < 48) (k : Nat) : w_row (q_up (q_up x 9 (upd (x 9) a v)) 15 h) k = if k = 48 + a then v else w_row x k := by
  by_cases hk : k = 48 + a
  · subst hk; simp (disch := omega) only [w_row, Nat.add_sub_cancel_left, iI_lit, iI_neg, iI_lt, iI_le, iI_eq, iI_add, iI_sub, iI_mul, iI_cl, q_let_r, q_jn_r, q_b1_r, q_b2_r, q_b3_r, if_true, if_false, eq_self, q_gd_in, q_up_s, q_up_n, upd_s, upd_n, if_pos, if_neg]
  · rw [if_neg hk]
    unfold w_row
    by_cases h1 : k < 48
    · simp (disch := omega) only [q_up_s, q_up_n, if_pos]
    · simp (disch := omega) only [q_up_s, q_up_n, upd_n, if_neg]
theorem w_row_10 {x : IS} {a : Nat} {v : Int32} {h : Nat → Int32} (ha : a < 5) (k : Nat) : w_row (q_up (q_up x 10 (upd (x 10) a v)) 15 h) k = if k = 96 + a then v else w_row x k := by
  by_cases hk : k = 96 + a
  · subst hk; simp (disch := omega) only [w_row, Nat.add_sub_cancel_left, iI_lit, iI_neg, iI_lt, iI_le, iI_eq, iI_add, iI_sub, iI_mul, iI_cl, q_let_r, q_jn_r, q_b1_r, q_b2_r, q_b3_r, if_true, if_false, eq_self, q_gd_in, q_up_s, q_up_n, upd_s, upd_n, if_pos, if_neg]
  · rw [if_neg hk]
    unfold w_row
    by_cases h1 : k < 96
    · simp (disch := omega) only [q_up_s, q_up_n, if_pos]
    · simp (disch := omega) only [q_up_s, q_up_n, upd_n, if_neg]
theorem w_row_14 {x : IS} {v : Int32} {h : Nat → Int32} (k : Nat) : w_row (q_up (q_up x 14 (fun _ => v)) 15 h) k = if 101 ≤ k then v else w_row x k := by
  by_cases hk : 101 ≤ k
  · rw [if_pos hk]; simp (disch := omega) only [w_row, iI_lit, iI_neg, iI_lt, iI_le, iI_eq, iI_add, iI_sub, iI_mul, iI_cl, q_let_r, q_jn_r, q_b1_r, q_b2_r, q_b3_r, if_true, if_false, eq_self, q_gd_in, q_up_s, q_up_n, upd_s, upd_n, if_pos, if_neg]
  · rw [if_neg hk]
    unfold w_row
    by_cases h1 : k < 48
    · simp (disch := omega) only [q_up_s, q_up_n, if_pos]
    · by_cases h2 : k < 96
      · simp (disch := omega) only [q_up_s, q_up_n, if_pos, if_neg]
      · simp (disch := omega) only [q_up_s, q_up_n, if_pos, if_neg]
theorem setPower_s {x : IS} {n : Nat} {a : Int} (hn : x 13 0 = iI n) (h0 : n ≤ 48) (h1 : 0 ≤ a) (h2 : a < n) (v : Int32) : f_X3_setPower x (iI a) v = some (q_up (q_up x 8 (upd (x 8) a.toNat v)) 15 (fun _ => iI 1)) := by
  simp (disch := omega) only [f_X3_setPower, has_t hn h0 h1 h2, iI_lit, iI_neg, iI_lt, iI_le, iI_eq, iI_add, iI_sub, iI_mul, iI_cl, q_let_r, q_jn_r, q_b1_r, q_b2_r, q_b3_r, if_true, if_false, eq_self, q_gd_in, q_up_s, q_up_n, upd_s, upd_n, if_pos, if_neg]
theorem setLeft_s {x : IS} {n : Nat} {a : Int} (hn : x 13 0 = iI n) (h0 : n ≤ 48) (h1 : 0 ≤ a) (h2 : a < n) (v : Int32) : f_X3_setLeft x (iI a) v = some (q_up (q_up x 9 (upd (x 9) a.toNat v)) 15 (fun _ => iI 1)) := by
  simp (disch := omega) only [f_X3_setLeft, has_t hn h0 h1 h2, iI_lit, iI_neg, iI_lt, iI_le, iI_eq, iI_add, iI_sub, iI_mul, iI_cl, q_let_r, q_jn_r, q_b1_r, q_b2_r, q_b3_r, if_true, if_false, eq_self, q_gd_in, q_up_s, q_up_n, upd_s, upd_n, if_pos, if_neg]
theorem setMode_s (x : IS) (v : Int32) : f_X3_setMode x v = some (q_up (q_up x 14 (fun _ => v)) 15 (fun _ => iI 1)) := by
  simp (disch := omega) only [f_X3_setMode, iI_lit, iI_neg, iI_lt, iI_le, iI_eq, iI_add, iI_sub, iI_mul, iI_cl, q_let_r, q_jn_r, q_b1_r, q_b2_r, q_b3_r, if_true, if_false, eq_self, q_gd_in, q_up_s, q_up_n, upd_s, upd_n, if_pos, if_neg]
theorem q_LL_i : ∀ k, k < 5 → q_LL k = iI (w_lo k) := by decide +kernel
theorem q_LM_i : ∀ k, k < 5 → q_LM k = iI (w_hi k) := by decide +kernel
theorem w_lo_b : ∀ k, k < 5 → 0 ≤ w_lo k ∧ w_lo k ≤ 1 := by decide +kernel
theorem w_hi_b : ∀ k, k < 5 → 3 ≤ w_hi k ∧ w_hi k ≤ 40 := by decide +kernel
theorem isLook_t {a b : Int} (h0 : 0 ≤ a) (h1 : a < 5) (h2 : w_lo a.toNat ≤ b) (h3 : b ≤ w_hi a.toNat) : f_X6_isLook (iI a) (iI b) = some (iI 1) := by
  have := w_lo_b a.toNat (by omega)
  have := w_hi_b a.toNat (by omega)
  simp (disch := omega) only [f_X6_isLook, q_LL_i, q_LM_i, iI_lit, iI_neg, iI_lt, iI_le, iI_eq, iI_add, iI_sub, iI_mul, iI_cl, q_let_r, q_jn_r, q_b1_r, q_b2_r, q_b3_r, if_true, if_false, eq_self, q_gd_in, q_up_s, q_up_n, upd_s, upd_n, if_pos, if_neg]
theorem isLook_f {a b : Int} (h0 : 0 ≤ a) (h1 : a < 5) (h2 : b < w_lo a.toNat ∨ w_hi a.toNat < b) (h3 : -2147483648 ≤ b) (h4 : b < 2147483648) : f_X6_isLook (iI a) (iI b) = some (iI 0) := by
  have := w_lo_b a.toNat (by omega)
  have := w_hi_b a.toNat (by omega)
  by_cases h : b < w_lo a.toNat
  · simp (disch := omega) only [f_X6_isLook, q_LL_i, q_LM_i, iI_lit, iI_neg, iI_lt, iI_le, iI_eq, iI_add, iI_sub, iI_mul, iI_cl, q_let_r, q_jn_r, q_b1_r, q_b2_r, q_b3_r, if_true, if_false, eq_self, q_gd_in, q_up_s, q_up_n, upd_s, upd_n, if_pos, if_neg]
  · simp (disch := omega) only [f_X6_isLook, q_LL_i, q_LM_i, iI_lit, iI_neg, iI_lt, iI_le, iI_eq, iI_add, iI_sub, iI_mul, iI_cl, q_let_r, q_jn_r, q_b1_r, q_b2_r, q_b3_r, if_true, if_false, eq_self, q_gd_in, q_up_s, q_up_n, upd_s, upd_n, if_pos, if_neg]
theorem setLook_s {x : IS} {a b : Int} (h0 : 0 ≤ a) (h1 : a < 5) (h2 : w_lo a.toNat ≤ b) (h3 : b ≤ w_hi a.toNat) : f_X3_setLook x (iI a) (iI b) = some (q_up (q_up x 10 (upd (x 10) a.toNat (iI b))) 15 (fun _ => iI 1)) := by
  simp (disch := omega) only [f_X3_setLook, isLook_t h0 h1 h2 h3, iI_lit, iI_neg, iI_lt, iI_le, iI_eq, iI_add, iI_sub, iI_mul, iI_cl, q_let_r, q_jn_r, q_b1_r, q_b2_r, q_b3_r, if_true, if_false, eq_self, q_gd_in, q_up_s, q_up_n, upd_s, upd_n, if_pos, if_neg]
theorem w_V_upd {n : Nat} {f : Nat → Int32} (hn : n ≤ 48) (h : w_V n f) {a : Nat} {v : Int32} (hp : a < n → 0 ≤ v.toInt ∧ v.toInt ≤ 99) (hl : 48 ≤ a → a < 48 + n → v = 0 ∨ v = 1) (hk : 96 ≤ a → a < 101 → w_lo (a - 96) ≤ v.toInt ∧ v.toInt ≤ w_hi (a - 96)) (hm : a = 101 → 0 ≤ v.toInt ∧ v.toInt ≤ 2) : w_V n (upd f a v) := by
  obtain ⟨h1, h2, h3, h4⟩ := h
  refine ⟨fun k hk' => ?_, fun k hk' => ?_, fun k hk' => ?_, ?_⟩
  · by_cases e : k = a
    · subst e; rw [upd_s]; exact hp hk'
    · rw [upd_n _ _ e]; exact h1 k hk'
  · by_cases e : 48 + k = a
    · rw [e, upd_s]; exact hl (by omega) (by omega)
    · rw [upd_n _ _ e]; exact h2 k hk'
  · by_cases e : 96 + k = a
    · rw [e, upd_s]; have := hk (by omega) (by omega); rw [show a - 96 = k by omega] at this; exact this
    · rw [upd_n _ _ e]; exact h3 k hk'
  · by_cases e : 101 = a
    · rw [e, upd_s]; exact hm e.symm
    · rw [upd_n _ _ e]; exact h4
theorem qt_power : qs_power q_I := by
  intro x j y hI a1 a2
  obtain ⟨ht, n, hr, ⟨p, hp, p28, p7, pch⟩, hd, hc⟩ := id hI
  obtain ⟨n1, n2, x13, y2, hV, hw⟩ := id hr
  obtain ⟨a, ha1, ha2, rfl⟩ := iI_of a1
  obtain ⟨b, hb1, hb2, rfl⟩ := iI_of a2
  by_cases hc1 : a < 0 ∨ n ≤ a
  · exact ⟨iI (-1), x, y, by simp (disch := omega) only [f_X6_power, has_f x13 n2 hc1, iI_lit, iI_neg, iI_lt, iI_le, iI_eq, iI_add, iI_sub, iI_mul, iI_cl, q_let_r, q_jn_r, q_b1_r, q_b2_r, q_b3_r, if_true, if_false, eq_self, q_gd_in, q_up_s, q_up_n, upd_s, upd_n, if_pos, if_neg], by simp (disch := omega) only [f_X7_power, isCell_f y2 n2 hc1, iI_lit, iI_neg, iI_lt, iI_le, iI_eq, iI_add, iI_sub, iI_mul, iI_cl, q_let_r, q_jn_r, q_b1_r, q_b2_r, q_b3_r, if_true, if_false, eq_self, q_gd_in, q_up_s, q_up_n, upd_s, upd_n, if_pos, if_neg], hI⟩
  by_cases hc2 : b < 0 ∨ 99 < b
  · exact ⟨iI (-1), x, y, by simp (disch := omega) only [f_X6_power, has_t x13 n2, isPow_f, iI_lit, iI_neg, iI_lt, iI_le, iI_eq, iI_add, iI_sub, iI_mul, iI_cl, q_let_r, q_jn_r, q_b1_r, q_b2_r, q_b3_r, if_true, if_false, eq_self, q_gd_in, q_up_s, q_up_n, upd_s, upd_n, if_pos, if_neg], by simp (disch := omega) only [f_X7_power, isCell_t y2 n2, isIn_f, iI_lit, iI_neg, iI_lt, iI_le, iI_eq, iI_add, iI_sub, iI_mul, iI_cl, q_let_r, q_jn_r, q_b1_r, q_b2_r, q_b3_r, if_true, if_false, eq_self, q_gd_in, q_up_s, q_up_n, upd_s, upd_n, if_pos, if_neg], hI⟩
  have e8 : x 8 a.toNat = y 5 a.toNat := by rw [← hw a.toNat (Or.inl (by omega)), w_row_p x (by omega)]
  by_cases hc3 : y 5 a.toNat = iI b
  · refine ⟨iI (-2), x, y, ?_, ?_, hI⟩
    · simp (disch := omega) only [f_X6_power, has_t x13 n2, isPow_t, e8, hc3, iI_lit, iI_neg, iI_lt, iI_le, iI_eq, iI_add, iI_sub, iI_mul, iI_cl, q_let_r, q_jn_r, q_b1_r, q_b2_r, q_b3_r, if_true, if_false, eq_self, q_gd_in, q_up_s, q_up_n, upd_s, upd_n, if_pos, if_neg]
    · simp (disch := omega) only [f_X7_power, isCell_t y2 n2, isIn_t, becomes_no (a := a) (by omega) (by omega) hc3, iI_lit, iI_neg, iI_lt, iI_le, iI_eq, iI_add, iI_sub, iI_mul, iI_cl, q_let_r, q_jn_r, q_b1_r, q_b2_r, q_b3_r, if_true, if_false, eq_self, q_gd_in, q_up_s, q_up_n, upd_s, upd_n, if_pos, if_neg]
  obtain ⟨x1, q, ex1, hq, c1, c2, c3, c4⟩ := keep_s hp p28 (iI 0) (iI a) (y 5 a.toNat)
  obtain ⟨y1, q', ey1, hq', d1, d2, d3, d4, d5⟩ := becomes_s (a := a) hp p7 (by omega) (by omega) hc3
  obtain rfl : q' = q := by omega
  have x113 : x1 13 0 = iI n := by rw [c1 13 (by omega)]; exact x13
  refine ⟨y 5 a.toNat, _, y1, ?_, ?_, w_change (x2 := q_up (q_up x1 8 (upd (x1 8) a.toNat (iI b))) 15 (fun _ => iI 1)) hI hr ?_ d1 ?_ ?_ ?_ ?_⟩
  · simp (disch := omega) only [f_X6_power, has_t x13 n2, isPow_t, e8, hc3, q_b1_s ex1, setPower_s x113 n2, iI_lit, iI_neg, iI_lt, iI_le, iI_eq, iI_add, iI_sub, iI_mul, iI_cl, q_let_r, q_jn_r, q_b1_r, q_b2_r, q_b3_r, if_true, if_false, eq_self, q_gd_in, q_up_s, q_up_n, upd_s, upd_n, if_pos, if_neg]
  · simp (disch := omega) only [f_X7_power, isCell_t y2 n2, isIn_t, q_b2_s ey1, iI_lit, iI_neg, iI_lt, iI_le, iI_eq, iI_add, iI_sub, iI_mul, iI_cl, q_let_r, q_jn_r, q_b1_r, q_b2_r, q_b3_r, if_true, if_false, eq_self, q_gd_in, q_up_s, q_up_n, upd_s, upd_n, if_pos, if_neg]
  · intro c h1 h2 h3 h4 h5 h6
    rw [q_up_n _ _ h6, q_up_n _ _ h2]; exact c1 c h1
  · rw [q_up_s]; rfl
  · rw [d2]
    exact w_V_upd n2 hV (fun _ => by rw [iI_toInt hb1 hb2]; omega) (fun h => absurd h (by omega)) (fun h => absurd h (by omega)) (fun h => absurd h (by omega))
  · intro k hk
    rw [w_row_8 (by omega), d2]
    by_cases e : k = a.toNat
    · rw [if_pos e, e, upd_s]
    · rw [if_neg e, upd_n _ _ e, w_row_c (c1 8 (by omega)) (c1 9 (by omega)) (c1 10 (by omega)) (c1 14 (by omega))]; exact hw k hk
  · refine ⟨q' + 1, by omega, ?_, ?_, ?_⟩
    · rw [q_up_n _ _ (by decide), q_up_n _ _ (by decide)]; exact c2
    · exact d3
    · refine w_push (x := x) n1 n2 hp pch hq ?_ ?_ d4 d5 (kd := iI 0) (pl := iI a) (v := y 5 a.toNat) ?_
      · intro i hi
        simp (disch := omega) only [q_up_n]
        exact c3 i hi
      · simp (disch := omega) only [q_up_n]
        exact c4
      · refine ⟨hV, Or.inl ⟨rfl, a.toNat, by omega, by rw [Int.toNat_of_nonneg (by omega)], rfl, fun k hk hne => ?_⟩⟩
        rw [d2, upd_n _ _ hne]
theorem qt_mode : qs_mode q_I := by
  intro x j y hI a1
  obtain ⟨ht, n, hr, ⟨p, hp, p28, p7, pch⟩, hd, hc⟩ := id hI
  obtain ⟨n1, n2, x13, y2, hV, hw⟩ := id hr
  obtain ⟨b, hb1, hb2, rfl⟩ := iI_of a1
  by_cases hc2 : b < 0 ∨ 2 < b
  · refine ⟨iI (-1), x, y, ?_, by simp (disch := omega) only [f_X7_mode, isIn_f, iI_lit, iI_neg, iI_lt, iI_le, iI_eq, iI_add, iI_sub, iI_mul, iI_cl, q_let_r, q_jn_r, q_b1_r, q_b2_r, q_b3_r, if_true, if_false, eq_self, q_gd_in, q_up_s, q_up_n, upd_s, upd_n, if_pos, if_neg], hI⟩
    by_cases hb0 : b < 0
    · simp (disch := omega) only [f_X6_mode, iI_lit, iI_neg, iI_lt, iI_le, iI_eq, iI_add, iI_sub, iI_mul, iI_cl, q_let_r, q_jn_r, q_b1_r, q_b2_r, q_b3_r, if_true, if_false, eq_self, q_gd_in, q_up_s, q_up_n, upd_s, upd_n, if_pos, if_neg]
    · simp (disch := omega) only [f_X6_mode, iI_lit, iI_neg, iI_lt, iI_le, iI_eq, iI_add, iI_sub, iI_mul, iI_cl, q_let_r, q_jn_r, q_b1_r, q_b2_r, q_b3_r, if_true, if_false, eq_self, q_gd_in, q_up_s, q_up_n, upd_s, upd_n, if_pos, if_neg]
  have e8 : x 14 0 = y 5 101 := by rw [← hw 101 (Or.inr (Or.inr ⟨by omega, by omega⟩)), w_row_m x]
  by_cases hc3 : y 5 101 = iI b
  · refine ⟨iI (-2), x, y, ?_, ?_, hI⟩
    · simp (disch := omega) only [f_X6_mode, e8, hc3, iI_lit, iI_neg, iI_lt, iI_le, iI_eq, iI_add, iI_sub, iI_mul, iI_cl, q_let_r, q_jn_r, q_b1_r, q_b2_r, q_b3_r, if_true, if_false, eq_self, q_gd_in, q_up_s, q_up_n, upd_s, upd_n, if_pos, if_neg]
    · simp (disch := omega) only [f_X7_mode, isIn_t, becomes_no (a := 101) (by omega) (by omega) hc3, iI_lit, iI_neg, iI_lt, iI_le, iI_eq, iI_add, iI_sub, iI_mul, iI_cl, q_let_r, q_jn_r, q_b1_r, q_b2_r, q_b3_r, if_true, if_false, eq_self, q_gd_in, q_up_s, q_up_n, upd_s, upd_n, if_pos, if_neg]
  obtain ⟨x1, q, ex1, hq, c1, c2, c3, c4⟩ := keep_s hp p28 (iI 3) (iI 0) (y 5 101)
  obtain ⟨y1, q', ey1, hq', d1, d2, d3, d4, d5⟩ := becomes_s (a := 101) hp p7 (by omega) (by omega) hc3
  have t101 : (101 : Int).toNat = 101 := rfl
  rw [t101] at ey1 d2
  obtain rfl : q' = q := by omega
  refine ⟨y 5 101, _, y1, ?_, ?_, w_change (x2 := q_up (q_up x1 14 (fun _ => iI b)) 15 (fun _ => iI 1)) hI hr ?_ d1 ?_ ?_ ?_ ?_⟩
  · simp (disch := omega) only [f_X6_mode, e8, hc3, q_b1_s ex1, setMode_s, iI_lit, iI_neg, iI_lt, iI_le, iI_eq, iI_add, iI_sub, iI_mul, iI_cl, q_let_r, q_jn_r, q_b1_r, q_b2_r, q_b3_r, if_true, if_false, eq_self, q_gd_in, q_up_s, q_up_n, upd_s, upd_n, if_pos, if_neg]
  · simp (disch := omega) only [f_X7_mode, isIn_t, q_b2_s ey1, iI_lit, iI_neg, iI_lt, iI_le, iI_eq, iI_add, iI_sub, iI_mul, iI_cl, q_let_r, q_jn_r, q_b1_r, q_b2_r, q_b3_r, if_true, if_false, eq_self, q_gd_in, q_up_s, q_up_n, upd_s, upd_n, if_pos, if_neg]
  · intro c h1 h2 h3 h4 h5 h6
    rw [q_up_n _ _ h6, q_up_n _ _ h5]; exact c1 c h1
  · rw [q_up_s]; rfl
  · rw [d2]
    exact w_V_upd n2 hV (fun h => absurd h (by omega)) (fun _ h => absurd h (by omega)) (fun _ h => absurd h (by omega)) (fun h => by rw [iI_toInt hb1 hb2]; omega)
  · intro k hk
    have := w_pl_102 n2 hk
    rw [w_row_14, d2]
    by_cases e : k = 101
    · rw [if_pos (by omega), e, upd_s]
    · rw [if_neg (by omega), upd_n _ _ e, w_row_c (c1 8 (by omega)) (c1 9 (by omega)) (c1 10 (by omega)) (c1 14 (by omega))]; exact hw k hk
  · refine ⟨q' + 1, by omega, ?_, ?_, ?_⟩
    · rw [q_up_n _ _ (by decide), q_up_n _ _ (by decide)]; exact c2
    · exact d3
    · refine w_push (x := x) n1 n2 hp pch hq ?_ ?_ d4 d5 (kd := iI 3) (pl := iI 0) (v := y 5 101) ?_
      · intro i hi
        simp (disch := omega) only [q_up_n]
        exact c3 i hi
      · simp (disch := omega) only [q_up_n]
        exact c4
      · refine ⟨hV, Or.inr (Or.inr (Or.inr (Or.inl ⟨rfl, rfl, fun k hk hne => ?_⟩)))⟩
        rw [d2, upd_n _ _ hne]
theorem least_s : ∀ k : Nat, k < 5 → f_X7_least (iI k) = some (iI (w_lo k)) := by
  intro k hk
  match k, hk with
  | 0, _ => rfl
  | 1, _ => rfl
  | 2, _ => rfl
  | 3, _ => rfl
  | 4, _ => rfl
  | n + 5, h => exact absurd h (by omega)
theorem most_s : ∀ k : Nat, k < 5 → f_X7_most (iI k) = some (iI (w_hi k)) := by
  intro k hk
  match k, hk with
  | 0, _ => rfl
  | 1, _ => rfl
  | 2, _ => rfl
  | 3, _ => rfl
  | 4, _ => rfl
  | n + 5, h => exact absurd h (by omega)
theorem qt_look : qs_look q_I := by
  intro x j y hI a1 a2
  obtain ⟨ht, n, hr, ⟨p, hp, p28, p7, pch⟩, hd, hc⟩ := id hI
  obtain ⟨n1, n2, x13, y2, hV, hw⟩ := id hr
  obtain ⟨a, ha1, ha2, rfl⟩ := iI_of a1
  obtain ⟨b, hb1, hb2, rfl⟩ := iI_of a2
  by_cases hc1 : a < 0 ∨ 4 < a
  · refine ⟨iI (-1), x, y, ?_, by simp (disch := omega) only [f_X7_look, isIn_f, iI_lit, iI_neg, iI_lt, iI_le, iI_eq, iI_add, iI_sub, iI_mul, iI_cl, q_let_r, q_jn_r, q_b1_r, q_b2_r, q_b3_r, if_true, if_false, eq_self, q_gd_in, q_up_s, q_up_n, upd_s, upd_n, if_pos, if_neg], hI⟩
    by_cases ha0 : a < 0
    · simp (disch := omega) only [f_X6_look, iI_lit, iI_neg, iI_lt, iI_le, iI_eq, iI_add, iI_sub, iI_mul, iI_cl, q_let_r, q_jn_r, q_b1_r, q_b2_r, q_b3_r, if_true, if_false, eq_self, q_gd_in, q_up_s, q_up_n, upd_s, upd_n, if_pos, if_neg]
    · simp (disch := omega) only [f_X6_look, iI_lit, iI_neg, iI_lt, iI_le, iI_eq, iI_add, iI_sub, iI_mul, iI_cl, q_let_r, q_jn_r, q_b1_r, q_b2_r, q_b3_r, if_true, if_false, eq_self, q_gd_in, q_up_s, q_up_n, upd_s, upd_n, if_pos, if_neg]
  obtain ⟨k, rfl⟩ : ∃ k : Nat, a = k := ⟨a.toNat, by omega⟩
  have hl := least_s k (by omega)
  have hm := most_s k (by omega)
  have b1 := w_lo_b k (by omega)
  have b2 := w_hi_b k (by omega)
  have tk : (k : Int).toNat = k := Int.toNat_natCast k
  by_cases hc2 : b < w_lo k ∨ w_hi k < b
  · refine ⟨iI (-1), x, y, ?_, ?_, hI⟩
    · simp (disch := omega) only [f_X6_look, isLook_f (a := k) (b := b) (by omega) (by omega) (by rw [tk]; exact hc2) hb1 hb2, iI_lit, iI_neg, iI_lt, iI_le, iI_eq, iI_add, iI_sub, iI_mul, iI_cl, q_let_r, q_jn_r, q_b1_r, q_b2_r, q_b3_r, if_true, if_false, eq_self, q_gd_in, q_up_s, q_up_n, upd_s, upd_n, if_pos, if_neg]
    · simp (disch := omega) only [f_X7_look, isIn_t, hl, hm, isIn_f, iI_lit, iI_neg, iI_lt, iI_le, iI_eq, iI_add, iI_sub, iI_mul, iI_cl, q_let_r, q_jn_r, q_b1_r, q_b2_r, q_b3_r, if_true, if_false, eq_self, q_gd_in, q_up_s, q_up_n, upd_s, upd_n, if_pos, if_neg]
  have hok := isLook_t (a := k) (b := b) (by omega) (by omega) (by rw [tk]; omega) (by rw [tk]; omega)
  have e8 : x 10 k = y 5 (96 + k) := by rw [← hw (96 + k) (Or.inr (Or.inr ⟨by omega, by omega⟩)), w_row_k x (by omega)]
  have t96 : (96 + (k : Int)).toNat = 96 + k := by omega
  by_cases hc3 : y 5 (96 + k) = iI b
  · refine ⟨iI (-2), x, y, ?_, ?_, hI⟩
    · simp (disch := omega) only [f_X6_look, hok, tk, e8, hc3, iI_lit, iI_neg, iI_lt, iI_le, iI_eq, iI_add, iI_sub, iI_mul, iI_cl, q_let_r, q_jn_r, q_b1_r, q_b2_r, q_b3_r, if_true, if_false, eq_self, q_gd_in, q_up_s, q_up_n, upd_s, upd_n, if_pos, if_neg]
    · simp (disch := omega) only [f_X7_look, isIn_t, hl, hm, becomes_no (y := y) (a := 96 + k) (v := iI b) (by omega) (by omega) (by rw [t96]; exact hc3), iI_lit, iI_neg, iI_lt, iI_le, iI_eq, iI_add, iI_sub, iI_mul, iI_cl, q_let_r, q_jn_r, q_b1_r, q_b2_r, q_b3_r, if_true, if_false, eq_self, q_gd_in, q_up_s, q_up_n, upd_s, upd_n, if_pos, if_neg]
  obtain ⟨x1, q, ex1, hq, c1, c2, c3, c4⟩ := keep_s hp p28 (iI 2) (iI k) (y 5 (96 + k))
  obtain ⟨y1, q', ey1, hq', d1, d2, d3, d4, d5⟩ := becomes_s (a := 96 + k) hp p7 (by omega) (by omega) (by rw [t96]; exact hc3)
  rw [t96] at ey1 d2
  obtain rfl : q' = q := by omega
  have hset := setLook_s (x := x1) (a := k) (b := b) (by omega) (by omega) (by rw [tk]; omega) (by rw [tk]; omega)
  rw [tk] at hset
  refine ⟨y 5 (96 + k), _, y1, ?_, ?_, w_change (x2 := q_up (q_up x1 10 (upd (x1 10) k (iI b))) 15 (fun _ => iI 1)) hI hr ?_ d1 ?_ ?_ ?_ ?_⟩
  · simp (disch := omega) only [f_X6_look, hok, tk, e8, hc3, q_b1_s ex1, hset, iI_lit, iI_neg, iI_lt, iI_le, iI_eq, iI_add, iI_sub, iI_mul, iI_cl, q_let_r, q_jn_r, q_b1_r, q_b2_r, q_b3_r, if_true, if_false, eq_self, q_gd_in, q_up_s, q_up_n, upd_s, upd_n, if_pos, if_neg]
  · simp (disch := omega) only [f_X7_look, isIn_t, hl, hm, q_b2_s ey1, iI_lit, iI_neg, iI_lt, iI_le, iI_eq, iI_add, iI_sub, iI_mul, iI_cl, q_let_r, q_jn_r, q_b1_r, q_b2_r, q_b3_r, if_true, if_false, eq_self, q_gd_in, q_up_s, q_up_n, upd_s, upd_n, if_pos, if_neg]
  · intro c h1 h2 h3 h4 h5 h6
    rw [q_up_n _ _ h6, q_up_n _ _ h4]; exact c1 c h1
  · rw [q_up_s]; rfl
  · rw [d2]
    refine w_V_upd n2 hV (fun h => absurd h (by omega)) (fun _ h => absurd h (by omega)) (fun _ _ => ?_) (fun h => absurd h (by omega))
    rw [Nat.add_sub_cancel_left, iI_toInt hb1 hb2]; omega
  · intro i hi
    rw [w_row_10 (by omega), d2]
    by_cases e : i = 96 + k
    · rw [if_pos e, e, upd_s]
    · rw [if_neg e, upd_n _ _ e, w_row_c (c1 8 (by omega)) (c1 9 (by omega)) (c1 10 (by omega)) (c1 14 (by omega))]; exact hw i hi
  · refine ⟨q' + 1, by omega, ?_, ?_, ?_⟩
    · rw [q_up_n _ _ (by decide), q_up_n _ _ (by decide)]; exact c2
    · exact d3
    · refine w_push (x := x) n1 n2 hp pch hq ?_ ?_ d4 d5 (kd := iI 2) (pl := iI k) (v := y 5 (96 + k)) ?_
      · intro i hi
        simp (disch := omega) only [q_up_n]
        exact c3 i hi
      · simp (disch := omega) only [q_up_n]
        exact c4
      · refine ⟨hV, Or.inr (Or.inr (Or.inl ⟨rfl, k, by omega, rfl, rfl, fun i hi hne => ?_⟩))⟩
        rw [d2, upd_n _ _ hne]
end
