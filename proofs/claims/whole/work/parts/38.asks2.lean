section
theorem qt_bunch : qs_bunch q_I := by
  intro x j y hI a1 a2
  obtain ⟨ht, n, hr, hp, hd, hc⟩ := id hI
  obtain ⟨n1, n2, x13, y2, hV, hw⟩ := id hr
  obtain ⟨a, ha1, ha2, rfl⟩ := iI_of a1
  obtain ⟨b, hb1, hb2, rfl⟩ := iI_of a2
  by_cases hc1 : a < -1
  · exact ⟨iI (-1), x, y, by simp (disch := omega) only [f_X6_bunch, iI_lit, iI_neg, iI_lt, iI_le, iI_eq, iI_add, iI_sub, iI_mul, iI_cl, q_let_r, q_jn_r, q_b1_r, q_b2_r, q_b3_r, if_true, if_false, eq_self, q_gd_in, q_up_s, q_up_n, upd_s, upd_n, if_pos, if_neg], by simp (disch := omega) only [f_X7_bunch, iI_lit, iI_neg, iI_lt, iI_le, iI_eq, iI_add, iI_sub, iI_mul, iI_cl, q_let_r, q_jn_r, q_b1_r, q_b2_r, q_b3_r, if_true, if_false, eq_self, q_gd_in, q_up_s, q_up_n, upd_s, upd_n, if_pos, if_neg], hI⟩
  by_cases hc2 : b < 0 ∨ 2 < b
  · refine ⟨iI (-1), x, y, ?_, by simp (disch := omega) only [f_X7_bunch, isIn_f, iI_lit, iI_neg, iI_lt, iI_le, iI_eq, iI_add, iI_sub, iI_mul, iI_cl, q_let_r, q_jn_r, q_b1_r, q_b2_r, q_b3_r, if_true, if_false, eq_self, q_gd_in, q_up_s, q_up_n, upd_s, upd_n, if_pos, if_neg], hI⟩
    by_cases hb0 : b < 0
    · simp (disch := omega) only [f_X6_bunch, iI_lit, iI_neg, iI_lt, iI_le, iI_eq, iI_add, iI_sub, iI_mul, iI_cl, q_let_r, q_jn_r, q_b1_r, q_b2_r, q_b3_r, if_true, if_false, eq_self, q_gd_in, q_up_s, q_up_n, upd_s, upd_n, if_pos, if_neg]
    · simp (disch := omega) only [f_X6_bunch, iI_lit, iI_neg, iI_lt, iI_le, iI_eq, iI_add, iI_sub, iI_mul, iI_cl, q_let_r, q_jn_r, q_b1_r, q_b2_r, q_b3_r, if_true, if_false, eq_self, q_gd_in, q_up_s, q_up_n, upd_s, upd_n, if_pos, if_neg]
  obtain ⟨hv, hm⟩ := vw_of hr
  obtain ⟨x1, e1, p1, hI1, hr1, hc1', hC⟩ := settleI (j := j) ht hr hp hd hc
  obtain ⟨y1, e2, p2⟩ := bunchesm_s hm
  obtain ⟨hm1, hf1⟩ := w_vm_5 hm p2
  have h22 := hC.2.2.2.1
  have hle := w_bs_le (w_al n (y 5)) n
  by_cases hc3 : a = -1
  · subst hc3
    refine ⟨iI (w_bs (w_al n (y 5)) n), x1, y1, ?_, ?_, q_I_scr hI1 (x_id x1) (y_scr p2)⟩
    · simp (disch := omega) only [f_X6_bunch, q_b1_s e1, h22, iI_lit, iI_neg, iI_lt, iI_le, iI_eq, iI_add, iI_sub, iI_mul, iI_cl, q_let_r, q_jn_r, q_b1_r, q_b2_r, q_b3_r, if_true, if_false, eq_self, q_gd_in, q_up_s, q_up_n, upd_s, upd_n, if_pos, if_neg]
    · simp (disch := omega) only [f_X7_bunch, isIn_t, q_b2_s e2, iI_lit, iI_neg, iI_lt, iI_le, iI_eq, iI_add, iI_sub, iI_mul, iI_cl, q_let_r, q_jn_r, q_b1_r, q_b2_r, q_b3_r, if_true, if_false, eq_self, q_gd_in, q_up_s, q_up_n, upd_s, upd_n, if_pos, if_neg]
  by_cases hc4 : (w_bs (w_al n (y 5)) n : Int) ≤ a
  · refine ⟨iI (-4), x1, y1, ?_, ?_, q_I_scr hI1 (x_id x1) (y_scr p2)⟩
    · simp (disch := omega) only [f_X6_bunch, q_b1_s e1, h22, iI_lit, iI_neg, iI_lt, iI_le, iI_eq, iI_add, iI_sub, iI_mul, iI_cl, q_let_r, q_jn_r, q_b1_r, q_b2_r, q_b3_r, if_true, if_false, eq_self, q_gd_in, q_up_s, q_up_n, upd_s, upd_n, if_pos, if_neg]
    · simp (disch := omega) only [f_X7_bunch, isIn_t, q_b2_s e2, iI_lit, iI_neg, iI_lt, iI_le, iI_eq, iI_add, iI_sub, iI_mul, iI_cl, q_let_r, q_jn_r, q_b1_r, q_b2_r, q_b3_r, if_true, if_false, eq_self, q_gd_in, q_up_s, q_up_n, upd_s, upd_n, if_pos, if_neg]
  obtain ⟨i, rfl⟩ : ∃ i : Nat, a = i := ⟨a.toNat, by omega⟩
  have hib : i < w_bs (w_al n (y 5)) n := by omega
  have tk : (i : Int).toNat = i := Int.toNat_natCast i
  obtain ⟨s, e, q, hB, hP, g1, g2, g3⟩ := hC.2.2.2.2 i hib
  obtain ⟨s', -, y3, e3, p3, a1', a2', a3', a4'⟩ := first_s hm1 (b := i) (by rw [hf1]; exact hib)
  have p13 : ∀ c, c ≠ 13 → c ≠ 14 → y3 c = y c := fun c a b => (p3 c a b).trans (p2 c a b)
  obtain ⟨hm3, hf3⟩ := w_vm_5 hm p13
  rw [hf1] at a2' a3' a4'
  -- its end, and so that it is the same
  obtain ⟨e', y4, e4, p4, b1', b2', b3', b4'⟩ := last_s hm3 a1' (by rw [hf3]; exact a2')
  rw [hf3] at b3' b4'
  have hB' : w_B (w_al n (y 5)) n i s' e' := ⟨b1', b2', b3', a3', b4', a4'⟩
  obtain ⟨rfl, rfl⟩ := w_B_uniq hB hB'
  rcases (show b = 0 ∨ b = 1 ∨ b = 2 by omega) with rfl | rfl | rfl
  · refine ⟨iI s, x1, y3, ?_, ?_, q_I_scr hI1 (x_id x1) (y_scr p13)⟩
    · simp (disch := omega) only [f_X6_bunch, q_b1_s e1, h22, tk, g1, iI_lit, iI_neg, iI_lt, iI_le, iI_eq, iI_add, iI_sub, iI_mul, iI_cl, q_let_r, q_jn_r, q_b1_r, q_b2_r, q_b3_r, if_true, if_false, eq_self, q_gd_in, q_up_s, q_up_n, upd_s, upd_n, if_pos, if_neg]
    · simp (disch := omega) only [f_X7_bunch, isIn_t, q_b2_s e2, q_b2_s e3, iI_lit, iI_neg, iI_lt, iI_le, iI_eq, iI_add, iI_sub, iI_mul, iI_cl, q_let_r, q_jn_r, q_b1_r, q_b2_r, q_b3_r, if_true, if_false, eq_self, q_gd_in, q_up_s, q_up_n, upd_s, upd_n, if_pos, if_neg]
  · refine ⟨iI e, x1, y4, ?_, ?_, q_I_scr hI1 (x_id x1) (y_scr (fun c a b => (p4 c a b).trans (p13 c a b)))⟩
    · simp (disch := omega) only [f_X6_bunch, q_b1_s e1, h22, tk, g2, iI_lit, iI_neg, iI_lt, iI_le, iI_eq, iI_add, iI_sub, iI_mul, iI_cl, q_let_r, q_jn_r, q_b1_r, q_b2_r, q_b3_r, if_true, if_false, eq_self, q_gd_in, q_up_s, q_up_n, upd_s, upd_n, if_pos, if_neg]
    · simp (disch := omega) only [f_X7_bunch, isIn_t, q_b2_s e2, q_b2_s e3, q_b2_s e4, iI_lit, iI_neg, iI_lt, iI_le, iI_eq, iI_add, iI_sub, iI_mul, iI_cl, q_let_r, q_jn_r, q_b1_r, q_b2_r, q_b3_r, if_true, if_false, eq_self, q_gd_in, q_up_s, q_up_n, upd_s, upd_n, if_pos, if_neg]
  · obtain ⟨e'', q'', y5, e5, p5, c1, c2, c3, c4, hP'⟩ := peak_s hm3 a1' (by rw [hf3]; exact a2')
    rw [hf3] at c3 c4 hP'
    obtain ⟨-, rfl⟩ := w_B_uniq hB (show w_B (w_al n (y 5)) n i s e'' from ⟨c1, c2, c3, a3', c4, a4'⟩)
    obtain rfl := w_P_uniq hP hP'
    refine ⟨iI q, x1, y5, ?_, ?_, q_I_scr hI1 (x_id x1) (y_scr (fun c a b => (p5 c a b).trans (p13 c a b)))⟩
    · simp (disch := omega) only [f_X6_bunch, q_b1_s e1, h22, tk, g3, iI_lit, iI_neg, iI_lt, iI_le, iI_eq, iI_add, iI_sub, iI_mul, iI_cl, q_let_r, q_jn_r, q_b1_r, q_b2_r, q_b3_r, if_true, if_false, eq_self, q_gd_in, q_up_s, q_up_n, upd_s, upd_n, if_pos, if_neg]
    · simp (disch := omega) only [f_X7_bunch, isIn_t, q_b2_s e2, q_b2_s e3, q_b2_s e5, iI_lit, iI_neg, iI_lt, iI_le, iI_eq, iI_add, iI_sub, iI_mul, iI_cl, q_let_r, q_jn_r, q_b1_r, q_b2_r, q_b3_r, if_true, if_false, eq_self, q_gd_in, q_up_s, q_up_n, upd_s, upd_n, if_pos, if_neg]
theorem qt_count : qs_count q_I := by
  intro x j y hI a1
  obtain ⟨ht, n, hr, hp, hd, hc⟩ := id hI
  obtain ⟨n1, n2, x13, y2, hV, hw⟩ := id hr
  obtain ⟨hv, hm⟩ := vw_of hr
  obtain ⟨a, ha1, ha2, rfl⟩ := iI_of a1
  by_cases hc2 : a < 0 ∨ 11 < a
  · exact ⟨iI (-1), x, y, by simp (disch := omega) only [f_X6_count, iI_lit, iI_neg, iI_lt, iI_le, iI_eq, iI_add, iI_sub, iI_mul, iI_cl, q_let_r, q_jn_r, q_b1_r, q_b2_r, q_b3_r, if_true, if_false, eq_self, q_gd_in, q_up_s, q_up_n, upd_s, upd_n, if_pos, if_neg], by simp (disch := omega) only [f_X7_count, iI_lit, iI_neg, iI_lt, iI_le, iI_eq, iI_add, iI_sub, iI_mul, iI_cl, q_let_r, q_jn_r, q_b1_r, q_b2_r, q_b3_r, if_true, if_false, eq_self, q_gd_in, q_up_s, q_up_n, upd_s, upd_n, if_pos, if_neg], hI⟩
  have hk := hv.2.2.2.2.1
  by_cases hc3 : 1 ≤ a ∧ a ≤ 5
  · obtain ⟨i, rfl⟩ : ∃ i : Nat, a = (i : Int) + 1 := ⟨(a - 1).toNat, by omega⟩
    have e1 : x 10 i = y 5 (96 + i) := hk i (by omega)
    have h1 : f_X6_count x (iI ((i : Int) + 1)) = some (y 5 (96 + i), x) := by
      have : f_X6_count x (iI ((i : Int) + 1)) = q_gd (q_in (iI ((i : Int) + 1) - (1 : Int32)) 5) (some ((x 10 (iI ((i : Int) + 1) - (1 : Int32)).toNatClampNeg), x)) := by
        rcases (show i = 0 ∨ i = 1 ∨ i = 2 ∨ i = 3 ∨ i = 4 by omega) with rfl | rfl | rfl | rfl | rfl <;> rfl
      rw [this]
      simp (disch := omega) only [show ((i : Int) + 1 - 1).toNat = i by omega, e1, iI_lit, iI_neg, iI_lt, iI_le, iI_eq, iI_add, iI_sub, iI_mul, iI_cl, q_let_r, q_jn_r, q_b1_r, q_b2_r, q_b3_r, if_true, if_false, eq_self, q_gd_in, q_up_s, q_up_n, upd_s, upd_n, if_pos, if_neg]
    have h2 : f_X7_count y (iI ((i : Int) + 1)) = some (y 5 (96 + i), y) := by
      have : f_X7_count y (iI ((i : Int) + 1)) = q_gd (q_in ((95 : Int32) + iI ((i : Int) + 1)) 102) (some ((y 5 ((95 : Int32) + iI ((i : Int) + 1)).toNatClampNeg), y)) := by
        rcases (show i = 0 ∨ i = 1 ∨ i = 2 ∨ i = 3 ∨ i = 4 by omega) with rfl | rfl | rfl | rfl | rfl <;> rfl
      rw [this]
      simp (disch := omega) only [show (95 + ((i : Int) + 1)).toNat = 96 + i by omega, iI_lit, iI_neg, iI_lt, iI_le, iI_eq, iI_add, iI_sub, iI_mul, iI_cl, q_let_r, q_jn_r, q_b1_r, q_b2_r, q_b3_r, if_true, if_false, eq_self, q_gd_in, q_up_s, q_up_n, upd_s, upd_n, if_pos, if_neg]
    exact ⟨_, x, y, h1, h2, hI⟩
  rcases (show a = 0 ∨ a = 6 ∨ a = 7 ∨ a = 8 ∨ a = 9 ∨ a = 10 ∨ a = 11 by omega) with rfl | rfl | rfl | rfl | rfl | rfl | rfl
  · refine ⟨iI n, x, y, ?_, ?_, hI⟩
    · rw [← x13]; rfl
    · rw [← y2]; rfl
  · refine ⟨y 5 101, x, y, ?_, ?_, hI⟩
    · rw [← hv.2.2.2.2.2.1]; rfl
    · show q_gd (q_in ((95 : Int32) + iI 6) 102) (some ((y 5 ((95 : Int32) + iI 6).toNatClampNeg), y)) = _
      simp (disch := omega) only [iI_lit, iI_neg, iI_lt, iI_le, iI_eq, iI_add, iI_sub, iI_mul, iI_cl, q_let_r, q_jn_r, q_b1_r, q_b2_r, q_b3_r, if_true, if_false, eq_self, q_gd_in, q_up_s, q_up_n, upd_s, upd_n, if_pos, if_neg]; rfl
  · obtain ⟨x1, e1, p1, hI1, hr1, hc1', hC⟩ := settleI (j := j) ht hr hp hd hc
    obtain ⟨y1, e2, p2⟩ := alarmsm_s hm
    refine ⟨iI (w_ca (w_al n (y 5)) n), x1, y1, ?_, ?_, q_I_scr hI1 (x_id x1) (y_scr p2)⟩
    · show q_b1 (f_X0_settle x) (fun x18 => some ((x18 21 0), x18)) = _
      rw [q_b1_s e1, hC.2.2.1]
    · show q_b2 (f_X7_alarms y) (fun r20 x21 => some (r20, x21)) = _
      rw [q_b2_s e2]
  · obtain ⟨x1, e1, p1, hI1, hr1, hc1', hC⟩ := settleI (j := j) ht hr hp hd hc
    obtain ⟨y1, e2, p2⟩ := bunchesm_s hm
    refine ⟨iI (w_bs (w_al n (y 5)) n), x1, y1, ?_, ?_, q_I_scr hI1 (x_id x1) (y_scr p2)⟩
    · show q_b1 (f_X0_settle x) (fun x18 => some ((x18 22 0), x18)) = _
      rw [q_b1_s e1, hC.2.2.2.1]
    · show q_b2 (f_X7_bunches y) (fun r20 x21 => some (r20, x21)) = _
      rw [q_b2_s e2]
  · obtain ⟨r, hr1, hr2⟩ := how_s hr
    refine ⟨r, x, y, ?_, ?_, hI⟩
    · show q_b1 (f_X3_howManyLeft x) (fun r13 => some (r13, x)) = _
      rw [q_b1_s hr1]
    · show q_b1 (f_X7_leftOut y) (fun r13 => some (r13, y)) = _
      rw [q_b1_s hr2]
  · obtain ⟨p, q1, q2, q3, q4⟩ := hp
    refine ⟨iI p, x, y, ?_, ?_, hI⟩
    · rw [← q2]; rfl
    · rw [← q3]; rfl
  · obtain ⟨len, q1, q2, q3, q4⟩ := ht
    refine ⟨iI len, x, y, ?_, ?_, hI⟩
    · rw [← q2]; rfl
    · rw [← q3]; rfl
end
