section
theorem q_I_mk {x y x2 y2 : IS} {j2 : JS} {n : Nat} (ht : q_It x y) (hr : q_Ir n x y) (hp : q_Ip n x y) (hd : q_Id x y) (hx : ∀ c, (c = 0 ∨ c = 2 ∨ c = 8 ∨ c = 9 ∨ c = 10 ∨ c = 13 ∨ c = 14 ∨ 23 ≤ c) → x2 c = x c) (hy : ∀ c, c ≤ 7 → y2 c = y c) (hc : q_Ic n x2 y2) : q_I x2 j2 y2 ∧ q_Ir n x2 y2 := by
  have h2 : q_Ir n x2 y2 := by
    obtain ⟨h1, h2, h3, h4, h5, h6⟩ := hr
    exact ⟨h1, h2, by rw [hx 13 (by omega)]; exact h3, by rw [hy 2 (by omega)]; exact h4, by rw [hy 5 (by omega)]; exact h5, fun k hk => by rw [w_row_c (hx 8 (by omega)) (hx 9 (by omega)) (hx 10 (by omega)) (hx 14 (by omega)), hy 5 (by omega)]; exact h6 k hk⟩
  refine ⟨⟨?_, n, h2, ?_, ?_, hc⟩, h2⟩
  · unfold q_It
    rw [hx 2 (by omega), hx 0 (by omega), hy 0 (by omega), hy 1 (by omega)]; exact ht
  · obtain ⟨p, h1, h2, h3, h4⟩ := hp
    refine ⟨p, h1, by rw [hx 28 (by omega)]; exact h2, by rw [hy 7 (by omega)]; exact h3, fun i hi => ?_⟩
    have eS : ∀ k, w_S y2 p k = w_S y p k := fun k => by simp only [w_S, hy 6 (by omega), hy 5 (by omega)]
    rw [hx 25 (by omega), hx 26 (by omega), hx 27 (by omega), eS, eS]
    exact h4 i hi
  · unfold q_Id
    rw [hx 23 (by omega), hx 24 (by omega), hy 4 (by omega)]
    exact hd
theorem q_I_scr {x y x2 y2 : IS} {j j2 : JS} (h : q_I x j y) (hx : ∀ c, c ≠ 11 → c ≠ 12 → x2 c = x c) (hy : ∀ c, c ≤ 7 → y2 c = y c) : q_I x2 j2 y2 := by
  obtain ⟨ht, n, hr, hp, hd, hc⟩ := h
  refine (q_I_mk ht hr hp hd (fun c hc => hx c (by omega) (by omega)) hy ?_).1
  unfold q_Ic q_Ica
  rw [hx 15 (by decide) (by decide), hx 16 (by decide) (by decide), hx 17 (by decide) (by decide), hx 18 (by decide) (by decide), hx 19 (by decide) (by decide), hx 20 (by decide) (by decide), hx 21 (by decide) (by decide), hx 22 (by decide) (by decide), hy 5 (by decide)]
  exact hc
theorem vw_of {n : Nat} {x y : IS} (hr : q_Ir n x y) : w_vw n x (y 5) (-4) ∧ w_vm n y := by
  obtain ⟨h1, h2, h3, h4, h5, h6⟩ := hr
  refine ⟨⟨h3, h2, h5, fun i hi => ⟨?_, ?_⟩, fun k hk => ?_, ?_, by omega, by omega⟩, h4, h2, h5⟩
  · rw [← h6 (48 + i) (Or.inr (Or.inl ⟨by omega, by omega⟩)), w_row_l x (by omega)]
    exact ⟨fun h => ⟨h, by omega⟩, fun h => h.1⟩
  · rw [← h6 i (Or.inl hi), w_row_p x (by omega)]
  · rw [← h6 (96 + k) (Or.inr (Or.inr ⟨by omega, by omega⟩)), w_row_k x hk]
  · rw [← h6 101 (Or.inr (Or.inr ⟨by omega, by omega⟩)), w_row_m]
theorem settleI {x y : IS} {j : JS} {n : Nat} (ht : q_It x y) (hr : q_Ir n x y) (hp : q_Ip n x y) (hd : q_Id x y) (hc : q_Ic n x y) : ∃ x', f_X0_settle x = some x' ∧ (∀ c, (c < 11 ∨ (12 < c ∧ c < 15) ∨ 22 < c) → x' c = x c) ∧ q_I x' j y ∧ q_Ir n x' y ∧ q_Ic n x' y ∧ w_C n n x' (y 5) := by
  obtain ⟨x', e, p1, p2, p3⟩ := settle_s (vw_of hr).1 hc.1 hc.2
  have hc2 : q_Ic n x' y := ⟨Or.inl p2, fun _ => p3⟩
  obtain ⟨a, b⟩ := q_I_mk (j2 := j) ht hr hp hd (fun c hc => p1 c (by omega)) (fun _ _ => rfl) hc2
  exact ⟨x', e, p1, a, b, hc2, p3⟩
theorem y_scr {y y' : IS} (h : ∀ c, c ≠ 13 → c ≠ 14 → y' c = y c) : ∀ c, c ≤ 7 → y' c = y c := fun c hc => h c (by omega) (by omega)
theorem x_id (x : IS) : ∀ c, c ≠ 11 → c ≠ 12 → x c = x c := fun _ _ _ => rfl
theorem qt_ranked : qs_ranked q_I := by
  intro x j y hI a1 a2 a3
  obtain ⟨ht, n, hr, hp, hd, hc⟩ := id hI
  obtain ⟨n1, n2, x13, y2, hV, hw⟩ := id hr
  obtain ⟨a, ha1, ha2, rfl⟩ := iI_of a1
  obtain ⟨b, hb1, hb2, rfl⟩ := iI_of a2
  obtain ⟨k, hk1, hk2, rfl⟩ := iI_of a3
  by_cases hc1 : a < 0 ∨ n ≤ a
  · exact ⟨iI (-1), x, y, by simp (disch := omega) only [f_X6_ranked, has_f x13 n2 hc1, iI_lit, iI_neg, iI_lt, iI_le, iI_eq, iI_add, iI_sub, iI_mul, iI_cl, q_let_r, q_jn_r, q_b1_r, q_b2_r, q_b3_r, if_true, if_false, eq_self, q_gd_in, q_up_s, q_up_n, upd_s, upd_n, if_pos, if_neg], by simp (disch := omega) only [f_X7_ranked, isCell_f y2 n2 hc1, iI_lit, iI_neg, iI_lt, iI_le, iI_eq, iI_add, iI_sub, iI_mul, iI_cl, q_let_r, q_jn_r, q_b1_r, q_b2_r, q_b3_r, if_true, if_false, eq_self, q_gd_in, q_up_s, q_up_n, upd_s, upd_n, if_pos, if_neg], hI⟩
  by_cases hc2 : b < 0 ∨ 2 < b
  · refine ⟨iI (-1), x, y, ?_, by simp (disch := omega) only [f_X7_ranked, isCell_t y2 n2, isIn_f, iI_lit, iI_neg, iI_lt, iI_le, iI_eq, iI_add, iI_sub, iI_mul, iI_cl, q_let_r, q_jn_r, q_b1_r, q_b2_r, q_b3_r, if_true, if_false, eq_self, q_gd_in, q_up_s, q_up_n, upd_s, upd_n, if_pos, if_neg], hI⟩
    by_cases hb0 : b < 0
    · simp (disch := omega) only [f_X6_ranked, has_t x13 n2, iI_lit, iI_neg, iI_lt, iI_le, iI_eq, iI_add, iI_sub, iI_mul, iI_cl, q_let_r, q_jn_r, q_b1_r, q_b2_r, q_b3_r, if_true, if_false, eq_self, q_gd_in, q_up_s, q_up_n, upd_s, upd_n, if_pos, if_neg]
    · simp (disch := omega) only [f_X6_ranked, has_t x13 n2, iI_lit, iI_neg, iI_lt, iI_le, iI_eq, iI_add, iI_sub, iI_mul, iI_cl, q_let_r, q_jn_r, q_b1_r, q_b2_r, q_b3_r, if_true, if_false, eq_self, q_gd_in, q_up_s, q_up_n, upd_s, upd_n, if_pos, if_neg]
  by_cases hc3 : k < 1
  · exact ⟨iI (-1), x, y, by simp (disch := omega) only [f_X6_ranked, has_t x13 n2, iI_lit, iI_neg, iI_lt, iI_le, iI_eq, iI_add, iI_sub, iI_mul, iI_cl, q_let_r, q_jn_r, q_b1_r, q_b2_r, q_b3_r, if_true, if_false, eq_self, q_gd_in, q_up_s, q_up_n, upd_s, upd_n, if_pos, if_neg], by simp (disch := omega) only [f_X7_ranked, isCell_t y2 n2, isIn_t, iI_lit, iI_neg, iI_lt, iI_le, iI_eq, iI_add, iI_sub, iI_mul, iI_cl, q_let_r, q_jn_r, q_b1_r, q_b2_r, q_b3_r, if_true, if_false, eq_self, q_gd_in, q_up_s, q_up_n, upd_s, upd_n, if_pos, if_neg], hI⟩
  obtain ⟨i, rfl⟩ : ∃ i : Nat, a = i := ⟨a.toNat, by omega⟩
  obtain ⟨hv, hm⟩ := vw_of hr
  obtain ⟨x1, e1, p1, q1⟩ := gather_s hv (show i < n by omega) (side := b) (by omega) (by omega)
  obtain ⟨y1, e2, p2, q2⟩ := rank_s hm (show i < n by omega) (side := b) (by omega) (by omega)
  have hlen := w_side_len hV i b
  have hI2 : q_I x1 j y1 := q_I_scr hI p1 (y_scr p2)
  generalize w_side n (y 5) i b = L at *
  by_cases hc4 : (L.length : Int) < k
  · refine ⟨iI (-4), x1, y1, ?_, ?_, hI2⟩
    · simp (disch := omega) only [f_X6_ranked, has_t x13 n2, q_b2_s e1, iI_lit, iI_neg, iI_lt, iI_le, iI_eq, iI_add, iI_sub, iI_mul, iI_cl, q_let_r, q_jn_r, q_b1_r, q_b2_r, q_b3_r, if_true, if_false, eq_self, q_gd_in, q_up_s, q_up_n, upd_s, upd_n, if_pos, if_neg]
    · simp (disch := omega) only [f_X7_ranked, isCell_t y2 n2, isIn_t, q_b2_s e2, iI_lit, iI_neg, iI_lt, iI_le, iI_eq, iI_add, iI_sub, iI_mul, iI_cl, q_let_r, q_jn_r, q_b1_r, q_b2_r, q_b3_r, if_true, if_false, eq_self, q_gd_in, q_up_s, q_up_n, upd_s, upd_n, if_pos, if_neg]
  · refine ⟨w_nth L (k - 1).toNat, x1, y1, ?_, ?_, hI2⟩
    · simp (disch := omega) only [f_X6_ranked, has_t x13 n2, q_b2_s e1, w_rep_nth L _ q1.2, iI_lit, iI_neg, iI_lt, iI_le, iI_eq, iI_add, iI_sub, iI_mul, iI_cl, q_let_r, q_jn_r, q_b1_r, q_b2_r, q_b3_r, if_true, if_false, eq_self, q_gd_in, q_up_s, q_up_n, upd_s, upd_n, if_pos, if_neg]
    · simp (disch := omega) only [f_X7_ranked, isCell_t y2 n2, isIn_t, q_b2_s e2, w_rep_nth L _ q2.2, iI_lit, iI_neg, iI_lt, iI_le, iI_eq, iI_add, iI_sub, iI_mul, iI_cl, q_let_r, q_jn_r, q_b1_r, q_b2_r, q_b3_r, if_true, if_false, eq_self, q_gd_in, q_up_s, q_up_n, upd_s, upd_n, if_pos, if_neg]
theorem qt_cell : qs_cell q_I := by
  intro x j y hI a1 a2
  obtain ⟨ht, n, hr, hp, hd, hc⟩ := id hI
  obtain ⟨n1, n2, x13, y2, hV, hw⟩ := id hr
  obtain ⟨a, ha1, ha2, rfl⟩ := iI_of a1
  obtain ⟨b, hb1, hb2, rfl⟩ := iI_of a2
  by_cases hc1 : a < 0 ∨ n ≤ a
  · exact ⟨iI (-1), x, y, by simp (disch := omega) only [f_X6_cell, has_f x13 n2 hc1, iI_lit, iI_neg, iI_lt, iI_le, iI_eq, iI_add, iI_sub, iI_mul, iI_cl, q_let_r, q_jn_r, q_b1_r, q_b2_r, q_b3_r, if_true, if_false, eq_self, q_gd_in, q_up_s, q_up_n, upd_s, upd_n, if_pos, if_neg], by simp (disch := omega) only [f_X7_cell, isCell_f y2 n2 hc1, iI_lit, iI_neg, iI_lt, iI_le, iI_eq, iI_add, iI_sub, iI_mul, iI_cl, q_let_r, q_jn_r, q_b1_r, q_b2_r, q_b3_r, if_true, if_false, eq_self, q_gd_in, q_up_s, q_up_n, upd_s, upd_n, if_pos, if_neg], hI⟩
  obtain ⟨i, rfl⟩ : ∃ i : Nat, a = i := ⟨a.toNat, by omega⟩
  obtain ⟨hv, hm⟩ := vw_of hr
  have hin : i < n := by omega
  have tk : (i : Int).toNat = i := Int.toNat_natCast i
  have t48 : (48 + (i : Int)).toNat = 48 + i := by omega
  by_cases hc2 : b < 0 ∨ 6 < b
  · exact ⟨iI (-1), x, y, by simp (disch := omega) only [f_X6_cell, has_t x13 n2, iI_lit, iI_neg, iI_lt, iI_le, iI_eq, iI_add, iI_sub, iI_mul, iI_cl, q_let_r, q_jn_r, q_b1_r, q_b2_r, q_b3_r, if_true, if_false, eq_self, q_gd_in, q_up_s, q_up_n, upd_s, upd_n, if_pos, if_neg], by simp (disch := omega) only [f_X7_cell, isCell_t y2 n2, iI_lit, iI_neg, iI_lt, iI_le, iI_eq, iI_add, iI_sub, iI_mul, iI_cl, q_let_r, q_jn_r, q_b1_r, q_b2_r, q_b3_r, if_true, if_false, eq_self, q_gd_in, q_up_s, q_up_n, upd_s, upd_n, if_pos, if_neg], hI⟩
  rcases (show b = 0 ∨ b = 1 ∨ b = 2 ∨ b = 3 ∨ b = 4 ∨ b = 5 ∨ b = 6 by omega) with rfl | rfl | rfl | rfl | rfl | rfl | rfl
  · refine ⟨y 5 i, x, y, ?_, ?_, hI⟩
    · simp (disch := omega) only [f_X6_cell, has_t x13 n2, tk, (hv.2.2.2.1 i hin).2, iI_lit, iI_neg, iI_lt, iI_le, iI_eq, iI_add, iI_sub, iI_mul, iI_cl, q_let_r, q_jn_r, q_b1_r, q_b2_r, q_b3_r, if_true, if_false, eq_self, q_gd_in, q_up_s, q_up_n, upd_s, upd_n, if_pos, if_neg]
    · simp (disch := omega) only [f_X7_cell, isCell_t y2 n2, tk, iI_lit, iI_neg, iI_lt, iI_le, iI_eq, iI_add, iI_sub, iI_mul, iI_cl, q_let_r, q_jn_r, q_b1_r, q_b2_r, q_b3_r, if_true, if_false, eq_self, q_gd_in, q_up_s, q_up_n, upd_s, upd_n, if_pos, if_neg]
  · refine ⟨y 5 (48 + i), x, y, ?_, ?_, hI⟩
    · have e9 : x 9 i = y 5 (48 + i) := by rw [← hw (48 + i) (Or.inr (Or.inl ⟨by omega, by omega⟩)), w_row_l x (by omega)]
      simp (disch := omega) only [f_X6_cell, has_t x13 n2, tk, e9, iI_lit, iI_neg, iI_lt, iI_le, iI_eq, iI_add, iI_sub, iI_mul, iI_cl, q_let_r, q_jn_r, q_b1_r, q_b2_r, q_b3_r, if_true, if_false, eq_self, q_gd_in, q_up_s, q_up_n, upd_s, upd_n, if_pos, if_neg]
    · simp (disch := omega) only [f_X7_cell, isCell_t y2 n2, t48, iI_lit, iI_neg, iI_lt, iI_le, iI_eq, iI_add, iI_sub, iI_mul, iI_cl, q_let_r, q_jn_r, q_b1_r, q_b2_r, q_b3_r, if_true, if_false, eq_self, q_gd_in, q_up_s, q_up_n, upd_s, upd_n, if_pos, if_neg]
  · obtain ⟨x1, e1, p1, q1⟩ := gather_s hv hin (side := 0) (by omega) (by omega)
    obtain ⟨y1, e2, p2, q2⟩ := rank_s hm hin (side := 0) (by omega) (by omega)
    refine ⟨iI (w_side n (y 5) i 0).length, x1, y1, ?_, ?_, q_I_scr hI p1 (y_scr p2)⟩
    · simp (disch := omega) only [f_X6_cell, has_t x13 n2, q_b2_s e1, iI_lit, iI_neg, iI_lt, iI_le, iI_eq, iI_add, iI_sub, iI_mul, iI_cl, q_let_r, q_jn_r, q_b1_r, q_b2_r, q_b3_r, if_true, if_false, eq_self, q_gd_in, q_up_s, q_up_n, upd_s, upd_n, if_pos, if_neg]
    · simp (disch := omega) only [f_X7_cell, isCell_t y2 n2, iI_lit, iI_neg, iI_lt, iI_le, iI_eq, iI_add, iI_sub, iI_mul, iI_cl, q_let_r, q_jn_r, q_b1_r, q_b2_r, q_b3_r, if_true, if_false, eq_self, q_gd_in, q_up_s, q_up_n, upd_s, upd_n, if_pos, if_neg]
      rw [show iI ((2 : Int) - 2) = iI 0 from rfl, q_b2_s e2]
  · obtain ⟨x1, e1, p1, q1⟩ := gather_s hv hin (side := 1) (by omega) (by omega)
    obtain ⟨y1, e2, p2, q2⟩ := rank_s hm hin (side := 1) (by omega) (by omega)
    refine ⟨iI (w_side n (y 5) i 1).length, x1, y1, ?_, ?_, q_I_scr hI p1 (y_scr p2)⟩
    · simp (disch := omega) only [f_X6_cell, has_t x13 n2, q_b2_s e1, iI_lit, iI_neg, iI_lt, iI_le, iI_eq, iI_add, iI_sub, iI_mul, iI_cl, q_let_r, q_jn_r, q_b1_r, q_b2_r, q_b3_r, if_true, if_false, eq_self, q_gd_in, q_up_s, q_up_n, upd_s, upd_n, if_pos, if_neg]
    · simp (disch := omega) only [f_X7_cell, isCell_t y2 n2, iI_lit, iI_neg, iI_lt, iI_le, iI_eq, iI_add, iI_sub, iI_mul, iI_cl, q_let_r, q_jn_r, q_b1_r, q_b2_r, q_b3_r, if_true, if_false, eq_self, q_gd_in, q_up_s, q_up_n, upd_s, upd_n, if_pos, if_neg]
      rw [show iI ((3 : Int) - 2) = iI 1 from rfl, q_b2_s e2]
  · obtain ⟨x1, e1, p1⟩ := floorOf_s hv hin
    obtain ⟨y1, e2, p2⟩ := mfloor_s hm hin
    refine ⟨w_floor n (y 5) i, x1, y1, ?_, ?_, q_I_scr hI p1 (y_scr p2)⟩
    · simp (disch := omega) only [f_X6_cell, has_t x13 n2, q_b2_s e1, iI_lit, iI_neg, iI_lt, iI_le, iI_eq, iI_add, iI_sub, iI_mul, iI_cl, q_let_r, q_jn_r, q_b1_r, q_b2_r, q_b3_r, if_true, if_false, eq_self, q_gd_in, q_up_s, q_up_n, upd_s, upd_n, if_pos, if_neg]
    · simp (disch := omega) only [f_X7_cell, isCell_t y2 n2, q_b2_s e2, iI_lit, iI_neg, iI_lt, iI_le, iI_eq, iI_add, iI_sub, iI_mul, iI_cl, q_let_r, q_jn_r, q_b1_r, q_b2_r, q_b3_r, if_true, if_false, eq_self, q_gd_in, q_up_s, q_up_n, upd_s, upd_n, if_pos, if_neg]
  · obtain ⟨x1, e1, p1⟩ := alarms_s hv hin (by omega)
    obtain ⟨y1, e2, p2⟩ := isAlarm_s hm hin
    by_cases ha : w_al n (y 5) i = true
    · rw [if_pos ha] at e1 e2
      refine ⟨iI 1, x1, y1, ?_, ?_, q_I_scr hI p1 (y_scr p2)⟩
      · simp (disch := omega) only [f_X6_cell, has_t x13 n2, q_b2_s e1, iI_lit, iI_neg, iI_lt, iI_le, iI_eq, iI_add, iI_sub, iI_mul, iI_cl, q_let_r, q_jn_r, q_b1_r, q_b2_r, q_b3_r, if_true, if_false, eq_self, q_gd_in, q_up_s, q_up_n, upd_s, upd_n, if_pos, if_neg]
      · simp (disch := omega) only [f_X7_cell, isCell_t y2 n2, q_b2_s e2, iI_lit, iI_neg, iI_lt, iI_le, iI_eq, iI_add, iI_sub, iI_mul, iI_cl, q_let_r, q_jn_r, q_b1_r, q_b2_r, q_b3_r, if_true, if_false, eq_self, q_gd_in, q_up_s, q_up_n, upd_s, upd_n, if_pos, if_neg]
    · rw [if_neg ha] at e1 e2
      refine ⟨iI 0, x1, y1, ?_, ?_, q_I_scr hI p1 (y_scr p2)⟩
      · simp (disch := omega) only [f_X6_cell, has_t x13 n2, q_b2_s e1, iI_lit, iI_neg, iI_lt, iI_le, iI_eq, iI_add, iI_sub, iI_mul, iI_cl, q_let_r, q_jn_r, q_b1_r, q_b2_r, q_b3_r, if_true, if_false, eq_self, q_gd_in, q_up_s, q_up_n, upd_s, upd_n, if_pos, if_neg]
      · simp (disch := omega) only [f_X7_cell, isCell_t y2 n2, q_b2_s e2, iI_lit, iI_neg, iI_lt, iI_le, iI_eq, iI_add, iI_sub, iI_mul, iI_cl, q_let_r, q_jn_r, q_b1_r, q_b2_r, q_b3_r, if_true, if_false, eq_self, q_gd_in, q_up_s, q_up_n, upd_s, upd_n, if_pos, if_neg]
  · obtain ⟨x1, e1, p1, hI1, hr1, hc1', hC⟩ := settleI (j := j) ht hr hp hd hc
    obtain ⟨y1, e2, p2⟩ := isAlarm_s hm hin
    have h17 := hC.2.1 i hin
    by_cases ha : w_al n (y 5) i = true
    · rw [if_pos ha] at h17 e2
      obtain ⟨hm1, hf1⟩ := w_vm_5 hm p2
      obtain ⟨y3, e3, p3⟩ := bunTo_s hm1 hin (by rw [hf1]; exact ha)
      rw [hf1] at e3
      refine ⟨iI ((w_bs (w_al n (y 5)) (i + 1) : Int) - 1), x1, y3, ?_, ?_, q_I_scr hI1 (x_id x1) (y_scr (fun c a b => (p3 c a b).trans (p2 c a b)))⟩
      · simp (disch := omega) only [f_X6_cell, has_t x13 n2, q_b1_s e1, tk, h17, iI_lit, iI_neg, iI_lt, iI_le, iI_eq, iI_add, iI_sub, iI_mul, iI_cl, q_let_r, q_jn_r, q_b1_r, q_b2_r, q_b3_r, if_true, if_false, eq_self, q_gd_in, q_up_s, q_up_n, upd_s, upd_n, if_pos, if_neg]
      · simp (disch := omega) only [f_X7_cell, isCell_t y2 n2, q_b2_s e2, q_b2_s e3, iI_lit, iI_neg, iI_lt, iI_le, iI_eq, iI_add, iI_sub, iI_mul, iI_cl, q_let_r, q_jn_r, q_b1_r, q_b2_r, q_b3_r, if_true, if_false, eq_self, q_gd_in, q_up_s, q_up_n, upd_s, upd_n, if_pos, if_neg]
    · rw [if_neg ha] at h17 e2
      refine ⟨iI (-4), x1, y1, ?_, ?_, q_I_scr hI1 (x_id x1) (y_scr p2)⟩
      · simp (disch := omega) only [f_X6_cell, has_t x13 n2, q_b1_s e1, tk, h17, iI_lit, iI_neg, iI_lt, iI_le, iI_eq, iI_add, iI_sub, iI_mul, iI_cl, q_let_r, q_jn_r, q_b1_r, q_b2_r, q_b3_r, if_true, if_false, eq_self, q_gd_in, q_up_s, q_up_n, upd_s, upd_n, if_pos, if_neg]
      · simp (disch := omega) only [f_X7_cell, isCell_t y2 n2, q_b2_s e2, iI_lit, iI_neg, iI_lt, iI_le, iI_eq, iI_add, iI_sub, iI_mul, iI_cl, q_let_r, q_jn_r, q_b1_r, q_b2_r, q_b3_r, if_true, if_false, eq_self, q_gd_in, q_up_s, q_up_n, upd_s, upd_n, if_pos, if_neg]
end
