section
theorem qt_drawn : qs_drawn q_I := by
  intro x j y hI a1
  obtain ⟨ht, n, hr, hp, hd, hc⟩ := id hI
  obtain ⟨n1, n2, x13, y2, hV, hw⟩ := id hr
  obtain ⟨hv, hm⟩ := vw_of hr
  obtain ⟨a, ha1, ha2, rfl⟩ := iI_of a1
  by_cases hneg : a < 0
  · exact ⟨iI (-1), x, y, by simp (disch := omega) only [f_X6_drawn, iI_lit, iI_neg, iI_lt, iI_le, iI_eq, iI_add, iI_sub, iI_mul, iI_cl, q_let_r, q_jn_r, q_b1_r, q_b2_r, q_b3_r, if_true, if_false, eq_self, q_gd_in, q_up_s, q_up_n, upd_s, upd_n, if_pos, if_neg], by simp (disch := omega) only [f_X7_drawn, iI_lit, iI_neg, iI_lt, iI_le, iI_eq, iI_add, iI_sub, iI_mul, iI_cl, q_let_r, q_jn_r, q_b1_r, q_b2_r, q_b3_r, if_true, if_false, eq_self, q_gd_in, q_up_s, q_up_n, upd_s, upd_n, if_pos, if_neg], hI⟩
  obtain ⟨x1, e1, p1, hI1, hr1, hc1', hC⟩ := settleI (j := j) ht hr hp hd hc
  have x113 : x1 13 0 = iI n := by rw [p1 13 (by omega)]; exact x13
  by_cases hlt : a < n
  · -- a cell
    obtain ⟨i, rfl⟩ : ∃ i : Nat, a = i := ⟨a.toNat, by omega⟩
    have hin : i < n := by omega
    have tk : (i : Int).toNat = i := Int.toNat_natCast i
    have hh := has_t (a := (i : Int)) x113 n2 (by omega) (by omega)
    have t48 : (48 + (i : Int)).toNat = 48 + i := by omega
    have e9 : x1 9 i = y 5 (48 + i) := by rw [p1 9 (by omega), ← hw (48 + i) (Or.inr (Or.inl ⟨by omega, by omega⟩)), w_row_l x (by omega)]
    by_cases h1 : y 5 (48 + i) = iI 1
    · refine ⟨iI 120, x1, y, ?_, ?_, hI1⟩
      · simp (disch := omega) only [f_X6_drawn, q_b1_s e1, q_b1_s hh, x113, tk, e9, h1, iI_lit, iI_neg, iI_lt, iI_le, iI_eq, iI_add, iI_sub, iI_mul, iI_cl, q_let_r, q_jn_r, q_b1_r, q_b2_r, q_b3_r, if_true, if_false, eq_self, q_gd_in, q_up_s, q_up_n, upd_s, upd_n, if_pos, if_neg]
      · simp (disch := omega) only [f_X7_drawn, y2, f_X7_sign, t48, h1, iI_lit, iI_neg, iI_lt, iI_le, iI_eq, iI_add, iI_sub, iI_mul, iI_cl, q_let_r, q_jn_r, q_b1_r, q_b2_r, q_b3_r, if_true, if_false, eq_self, q_gd_in, q_up_s, q_up_n, upd_s, upd_n, if_pos, if_neg]
    obtain ⟨y1, e2, p2⟩ := isAlarm_s hm hin
    have h17 := hC.2.1 i hin
    have h22 := hC.2.2.2.1
    have hle := w_bs_le (w_al n (y 5)) n
    by_cases hal : w_al n (y 5) i = true
    · rw [if_pos hal] at h17 e2
      obtain ⟨hm1, hf1⟩ := w_vm_5 hm p2
      obtain ⟨y3, e3, p3⟩ := bunTo_s hm1 hin (by rw [hf1]; exact hal)
      rw [hf1] at e3
      have p13 : ∀ c, c ≠ 13 → c ≠ 14 → y3 c = y c := fun c a b => (p3 c a b).trans (p2 c a b)
      obtain ⟨hm3, hf3⟩ := w_vm_5 hm p13
      have hpos := w_bs_pos (al := w_al n (y 5)) i hal
      have hmono := w_bs_mono (w_al n (y 5)) (a := i + 1) n (by omega)
      obtain ⟨b, hb⟩ : ∃ b : Nat, w_bs (w_al n (y 5)) (i + 1) = b + 1 := ⟨w_bs (w_al n (y 5)) (i + 1) - 1, by omega⟩
      have eb : ((w_bs (w_al n (y 5)) (i + 1) : Int) - 1) = (b : Int) := by omega
      rw [eb] at h17 e3
      have tb : (b : Int).toNat = b := Int.toNat_natCast b
      obtain ⟨s, e, q, hB, hP, g1, g2, g3⟩ := hC.2.2.2.2 b (by omega)
      obtain ⟨s', -, y4, e4, p4, a1', a2', a3', a4'⟩ := first_s hm3 (b := b) (by rw [hf3]; omega)
      rw [hf3] at a2' a3' a4'
      have p14 : ∀ c, c ≠ 13 → c ≠ 14 → y4 c = y c := fun c a b => (p4 c a b).trans (p13 c a b)
      obtain ⟨hm4, hf4⟩ := w_vm_5 hm p14
      obtain ⟨e'', q'', y5, e5, p5, c1, c2, c3, c4, hP'⟩ := peak_s hm4 a1' (by rw [hf4]; exact a2')
      rw [hf4] at c3 c4 hP'
      obtain ⟨rfl, rfl⟩ := w_B_uniq hB (show w_B (w_al n (y 5)) n b s' e'' from ⟨c1, c2, c3, a3', c4, a4'⟩)
      obtain rfl := w_P_uniq hP hP'
      have hq48 := hP.2.1
      have hIe : q_I x1 j y5 := q_I_scr hI1 (x_id x1) (y_scr (fun c a b => (p5 c a b).trans (p14 c a b)))
      by_cases hqi : q = i
      · refine ⟨iI 94, x1, y5, ?_, ?_, hIe⟩
        · simp (disch := omega) only [f_X6_drawn, q_b1_s e1, q_b1_s hh, x113, tk, e9, h1, f_X0_letterOf, h17, h22, tb, g3, iI_lit, iI_neg, iI_lt, iI_le, iI_eq, iI_add, iI_sub, iI_mul, iI_cl, q_let_r, q_jn_r, q_b1_r, q_b2_r, q_b3_r, if_true, if_false, eq_self, q_gd_in, q_up_s, q_up_n, upd_s, upd_n, if_pos, if_neg]
        · simp (disch := omega) only [f_X7_drawn, y2, f_X7_sign, t48, h1, q_b2_s e2, q_b2_s e3, q_b2_s e4, q_b2_s e5, iI_lit, iI_neg, iI_lt, iI_le, iI_eq, iI_add, iI_sub, iI_mul, iI_cl, q_let_r, q_jn_r, q_b1_r, q_b2_r, q_b3_r, if_true, if_false, eq_self, q_gd_in, q_up_s, q_up_n, upd_s, upd_n, if_pos, if_neg]
      · refine ⟨iI 33, x1, y5, ?_, ?_, hIe⟩
        · simp (disch := omega) only [f_X6_drawn, q_b1_s e1, q_b1_s hh, x113, tk, e9, h1, f_X0_letterOf, h17, h22, tb, g3, iI_lit, iI_neg, iI_lt, iI_le, iI_eq, iI_add, iI_sub, iI_mul, iI_cl, q_let_r, q_jn_r, q_b1_r, q_b2_r, q_b3_r, if_true, if_false, eq_self, q_gd_in, q_up_s, q_up_n, upd_s, upd_n, if_pos, if_neg]
        · simp (disch := omega) only [f_X7_drawn, y2, f_X7_sign, t48, h1, q_b2_s e2, q_b2_s e3, q_b2_s e4, q_b2_s e5, iI_lit, iI_neg, iI_lt, iI_le, iI_eq, iI_add, iI_sub, iI_mul, iI_cl, q_let_r, q_jn_r, q_b1_r, q_b2_r, q_b3_r, if_true, if_false, eq_self, q_gd_in, q_up_s, q_up_n, upd_s, upd_n, if_pos, if_neg]
    · rw [if_neg hal] at h17 e2
      refine ⟨iI 46, x1, y1, ?_, ?_, q_I_scr hI1 (x_id x1) (y_scr p2)⟩
      · simp (disch := omega) only [f_X6_drawn, q_b1_s e1, q_b1_s hh, x113, tk, e9, h1, f_X0_letterOf, h17, iI_lit, iI_neg, iI_lt, iI_le, iI_eq, iI_add, iI_sub, iI_mul, iI_cl, q_let_r, q_jn_r, q_b1_r, q_b2_r, q_b3_r, if_true, if_false, eq_self, q_gd_in, q_up_s, q_up_n, upd_s, upd_n, if_pos, if_neg]
      · simp (disch := omega) only [f_X7_drawn, y2, f_X7_sign, t48, h1, q_b2_s e2, iI_lit, iI_neg, iI_lt, iI_le, iI_eq, iI_add, iI_sub, iI_mul, iI_cl, q_let_r, q_jn_r, q_b1_r, q_b2_r, q_b3_r, if_true, if_false, eq_self, q_gd_in, q_up_s, q_up_n, upd_s, upd_n, if_pos, if_neg]
  have hh := has_f (a := a) x113 n2 (by omega) (by omega) (by omega)
  by_cases heq : a = n
  · subst heq
    refine ⟨iI 61, x1, y, ?_, ?_, hI1⟩
    · simp (disch := omega) only [f_X6_drawn, q_b1_s e1, q_b1_s hh, x113, f_X6_letterBehindCells, iI_lit, iI_neg, iI_lt, iI_le, iI_eq, iI_add, iI_sub, iI_mul, iI_cl, q_let_r, q_jn_r, q_b1_r, q_b2_r, q_b3_r, if_true, if_false, eq_self, q_gd_in, q_up_s, q_up_n, upd_s, upd_n, if_pos, if_neg]
    · simp (disch := omega) only [f_X7_drawn, y2, iI_lit, iI_neg, iI_lt, iI_le, iI_eq, iI_add, iI_sub, iI_mul, iI_cl, q_let_r, q_jn_r, q_b1_r, q_b2_r, q_b3_r, if_true, if_false, eq_self, q_gd_in, q_up_s, q_up_n, upd_s, upd_n, if_pos, if_neg]
  · obtain ⟨y1, e2, p2⟩ := alarmsm_s hm
    obtain ⟨hm1, hf1⟩ := w_vm_5 hm p2
    obtain ⟨y3, e3, p3⟩ := bunchesm_s hm1
    rw [hf1] at e3
    have hca := w_ca_le (w_al n (y 5)) n
    have hle := w_bs_le (w_al n (y 5)) n
    obtain ⟨r, hr1', hr2'⟩ := behind_s (x := x1) (c := w_ca (w_al n (y 5)) n) (B := w_bs (w_al n (y 5)) n) hC.2.2.1 hC.2.2.2.1 (by omega) (by omega) (k := a - n) (by omega) (by omega)
    have y12 : y1 2 0 = iI n := hm1.1
    have hX : f_X6_drawn x (iI a) = some (r, x1) := by
      simp (disch := omega) only [f_X6_drawn, q_b1_s e1, q_b1_s hh, x113, iI_lit, iI_neg, iI_lt, iI_le, iI_eq, iI_add, iI_sub, iI_mul, iI_cl, q_let_r, q_jn_r, q_b1_r, q_b2_r, q_b3_r, if_true, if_false, eq_self, q_gd_in, q_up_s, q_up_n, upd_s, upd_n]
      rw [if_pos (by omega), q_b1_s hr1']
    obtain ⟨c, hcv⟩ : ∃ c, w_ca (w_al n (y 5)) n = c := ⟨_, rfl⟩
    obtain ⟨B, hBv⟩ : ∃ B, w_bs (w_al n (y 5)) n = B := ⟨_, rfl⟩
    rw [hcv] at e2 hr2' hca
    rw [hBv] at e3 hr2' hle
    have hY : ∃ yy, f_X7_drawn y (iI a) = some (r, yy) ∧ (∀ c, c ≠ 13 → c ≠ 14 → yy c = y c) := by
      obtain ⟨w, hw', hw2⟩ : ∃ w : Int, (if c < 10 then (1 : Int) else 2) = w ∧ (w = 1 ∧ c < 10 ∨ w = 2 ∧ 10 ≤ c) := by
        by_cases h : c < 10
        · exact ⟨1, if_pos h, Or.inl ⟨rfl, h⟩⟩
        · exact ⟨2, if_neg h, Or.inr ⟨rfl, by omega⟩⟩
      rw [hw'] at hr2'
      have hred : f_X7_drawn y (iI a) = (if iI w < iI (a - n - 1) then q_b2 (f_X7_bunches y1) (fun r11 x12 => q_b1 (f_X7_figure r11 (iI (a - n - 1 - w - 1))) fun r15 => some (r15, x12)) else if iI w ≤ iI (a - n - 1) then some (32, y1) else q_b1 (f_X7_figure (iI c) (iI (a - n - 1))) fun r19 => some (r19, y1)) := by
        unfold f_X7_drawn
        rw [if_pos (by rw [show (0 : Int32) = iI 0 from rfl, iI_le (by omega) (by omega) (by omega) (by omega)]; omega), y2, if_pos (by rw [iI_lt (by omega) (by omega) (by omega) (by omega)]; omega), q_b2_s e2]
        simp only [q_jn_r, q_let_r, y12]
        rcases hw2 with ⟨rfl, hc1⟩ | ⟨rfl, hc1⟩
        · rw [if_neg (by rw [show (10 : Int32) = iI 10 from rfl, iI_le (by omega) (by omega) (by omega) (by omega)]; omega)]
          simp only [iI_lit, iI_sub]
        · rw [if_pos (by rw [show (10 : Int32) = iI 10 from rfl, iI_le (by omega) (by omega) (by omega) (by omega)]; omega)]
          simp only [iI_lit, iI_sub]
      rw [hred]
      by_cases h1 : iI w < iI (a - n - 1)
      · rw [if_pos h1] at hr2' ⊢
        exact ⟨y3, by rw [q_b2_s e3, q_b1_s hr2'], fun c a b => (p3 c a b).trans (p2 c a b)⟩
      · rw [if_neg h1] at hr2' ⊢
        by_cases h2 : iI w ≤ iI (a - n - 1)
        · rw [if_pos h2] at hr2' ⊢
          exact ⟨y1, by rw [← Option.some.inj hr2'], p2⟩
        · rw [if_neg h2] at hr2' ⊢
          exact ⟨y1, by rw [q_b1_s hr2'], p2⟩
    obtain ⟨yy, hYe, hYc⟩ := hY
    exact ⟨r, x1, yy, hX, hYe, q_I_scr hI1 (x_id x1) (y_scr hYc)⟩
end
