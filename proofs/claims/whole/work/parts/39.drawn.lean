section
theorem fig_lo : ∀ c, c < 10 → (48 : Int32) + (iI (c : Nat) - iI (c : Nat) / (10 : Int32) * (10 : Int32)) = (48 : Int32) + iI (c : Nat) := by decide +kernel
theorem figs_lo {c : Nat} (h : c < 10) : f_X6_figuresOf (iI c) = some (iI 1) := by simp (disch := omega) only [f_X6_figuresOf, iI_lit, iI_neg, iI_lt, iI_le, iI_eq, iI_add, iI_sub, iI_mul, iI_cl, q_let_r, q_jn_r, q_b1_r, q_b2_r, q_b3_r, if_true, if_false, eq_self, q_gd_in, q_up_s, q_up_n, upd_s, upd_n, if_pos, if_neg]
theorem figs_hi {c : Nat} (h : 10 ≤ c) (h2 : c < 100) : f_X6_figuresOf (iI c) = some (iI 2) := by simp (disch := omega) only [f_X6_figuresOf, iI_lit, iI_neg, iI_lt, iI_le, iI_eq, iI_add, iI_sub, iI_mul, iI_cl, q_let_r, q_jn_r, q_b1_r, q_b2_r, q_b3_r, if_true, if_false, eq_self, q_gd_in, q_up_s, q_up_n, upd_s, upd_n, if_pos, if_neg]
/-- what stands behind the cells is the same -/
theorem behind_s {x : IS} {c B : Nat} (h21 : x 21 0 = iI c) (h22 : x 22 0 = iI B) (hc : c < 100) (hB : B < 100) {k : Int} (hk0 : 1 ≤ k) (hk : k < 2147483647) :
    ∃ r, f_X6_letterBehindCells x (iI k) = some r ∧
      (if iI (if c < 10 then 1 else 2) < iI (k - 1) then f_X7_figure (iI B) (iI (k - 1 - (if c < 10 then 1 else 2) - 1)) else if iI (if c < 10 then 1 else 2) ≤ iI (k - 1) then some (32 : Int32) else f_X7_figure (iI c) (iI (k - 1))) = some r := by
  have fB : ∀ j : Int, 0 ≤ j → j < 2147483647 → ∃ r, f_X7_figure (iI B) (iI j) = some r ∧ ((B < 10 ∧ ((j = 0 ∧ r = (48 : Int32) + (iI B - iI B / (10 : Int32) * (10 : Int32))) ∨ (1 ≤ j ∧ r = iI (-4)))) ∨ (10 ≤ B ∧ ((j = 0 ∧ r = (48 : Int32) + iI B / (10 : Int32)) ∨ (j = 1 ∧ r = (48 : Int32) + (iI B - iI B / (10 : Int32) * (10 : Int32))) ∨ (2 ≤ j ∧ r = iI (-4))))) := by
    intro j h0 h1
    by_cases hb : B < 10
    · by_cases hj : j = 0
      · subst hj
        exact ⟨_, by simp (disch := omega) only [f_X7_figure, iI_lit, iI_neg, iI_lt, iI_le, iI_eq, iI_add, iI_sub, iI_mul, iI_cl, q_let_r, q_jn_r, q_b1_r, q_b2_r, q_b3_r, if_true, if_false, eq_self, q_gd_in, q_up_s, q_up_n, upd_s, upd_n, if_pos, if_neg], Or.inl ⟨hb, Or.inl ⟨rfl, (fig_lo B hb).symm⟩⟩⟩
      · exact ⟨iI (-4), by simp (disch := omega) only [f_X7_figure, iI_lit, iI_neg, iI_lt, iI_le, iI_eq, iI_add, iI_sub, iI_mul, iI_cl, q_let_r, q_jn_r, q_b1_r, q_b2_r, q_b3_r, if_true, if_false, eq_self, q_gd_in, q_up_s, q_up_n, upd_s, upd_n, if_pos, if_neg], Or.inl ⟨hb, Or.inr ⟨by omega, rfl⟩⟩⟩
    · by_cases hj : j = 0
      · subst hj
        exact ⟨_, by simp (disch := omega) only [f_X7_figure, iI_lit, iI_neg, iI_lt, iI_le, iI_eq, iI_add, iI_sub, iI_mul, iI_cl, q_let_r, q_jn_r, q_b1_r, q_b2_r, q_b3_r, if_true, if_false, eq_self, q_gd_in, q_up_s, q_up_n, upd_s, upd_n, if_pos, if_neg], Or.inr ⟨by omega, Or.inl ⟨rfl, rfl⟩⟩⟩
      · by_cases hj1 : j = 1
        · subst hj1
          exact ⟨_, by simp (disch := omega) only [f_X7_figure, iI_lit, iI_neg, iI_lt, iI_le, iI_eq, iI_add, iI_sub, iI_mul, iI_cl, q_let_r, q_jn_r, q_b1_r, q_b2_r, q_b3_r, if_true, if_false, eq_self, q_gd_in, q_up_s, q_up_n, upd_s, upd_n, if_pos, if_neg], Or.inr ⟨by omega, Or.inr (Or.inl ⟨rfl, rfl⟩)⟩⟩
        · exact ⟨iI (-4), by simp (disch := omega) only [f_X7_figure, iI_lit, iI_neg, iI_lt, iI_le, iI_eq, iI_add, iI_sub, iI_mul, iI_cl, q_let_r, q_jn_r, q_b1_r, q_b2_r, q_b3_r, if_true, if_false, eq_self, q_gd_in, q_up_s, q_up_n, upd_s, upd_n, if_pos, if_neg], Or.inr ⟨by omega, Or.inr (Or.inr ⟨by omega, rfl⟩)⟩⟩
  -- w: how wide the first number is
  obtain ⟨w, hw, hfw⟩ : ∃ w : Int, (if c < 10 then (1 : Int) else 2) = w ∧ f_X6_figuresOf (iI c) = some (iI w) := by
    by_cases h : c < 10
    · exact ⟨1, if_pos h, figs_lo h⟩
    · exact ⟨2, if_neg h, figs_hi (by omega) hc⟩
  have hw12 : (w = 1 ∧ c < 10) ∨ (w = 2 ∧ 10 ≤ c) := by
    by_cases h : c < 10
    · rw [if_pos h] at hw; exact Or.inl ⟨hw.symm, h⟩
    · rw [if_neg h] at hw; exact Or.inr ⟨hw.symm, by omega⟩
  rw [hw]
  by_cases h1 : k < 1 + w
  · -- in the first number
    rw [if_neg (by rw [iI_lt (by omega) (by omega) (by omega) (by omega)]; omega), if_neg (by rw [iI_le (by omega) (by omega) (by omega) (by omega)]; omega)]
    rcases hw12 with ⟨rfl, hc1⟩ | ⟨rfl, hc1⟩
    · obtain rfl : k = 1 := by omega
      refine ⟨(48 : Int32) + (iI c - iI c / (10 : Int32) * (10 : Int32)), ?_, ?_⟩
      · simp (disch := omega) only [f_X6_letterBehindCells, h21, hfw, f_X6_figureOf, iI_lit, iI_neg, iI_lt, iI_le, iI_eq, iI_add, iI_sub, iI_mul, iI_cl, q_let_r, q_jn_r, q_b1_r, q_b2_r, q_b3_r, if_true, if_false, eq_self, q_gd_in, q_up_s, q_up_n, upd_s, upd_n, if_pos, if_neg]
      · rw [fig_lo c hc1]
        simp (disch := omega) only [f_X7_figure, iI_lit, iI_neg, iI_lt, iI_le, iI_eq, iI_add, iI_sub, iI_mul, iI_cl, q_let_r, q_jn_r, q_b1_r, q_b2_r, q_b3_r, if_true, if_false, eq_self, q_gd_in, q_up_s, q_up_n, upd_s, upd_n, if_pos, if_neg]
    · rcases (show k = 1 ∨ k = 2 by omega) with rfl | rfl
      · refine ⟨(48 : Int32) + iI c / (10 : Int32), ?_, ?_⟩
        · simp (disch := omega) only [f_X6_letterBehindCells, h21, hfw, f_X6_figureOf, iI_lit, iI_neg, iI_lt, iI_le, iI_eq, iI_add, iI_sub, iI_mul, iI_cl, q_let_r, q_jn_r, q_b1_r, q_b2_r, q_b3_r, if_true, if_false, eq_self, q_gd_in, q_up_s, q_up_n, upd_s, upd_n, if_pos, if_neg]
        · simp (disch := omega) only [f_X7_figure, iI_lit, iI_neg, iI_lt, iI_le, iI_eq, iI_add, iI_sub, iI_mul, iI_cl, q_let_r, q_jn_r, q_b1_r, q_b2_r, q_b3_r, if_true, if_false, eq_self, q_gd_in, q_up_s, q_up_n, upd_s, upd_n, if_pos, if_neg]
      · refine ⟨(48 : Int32) + (iI c - iI c / (10 : Int32) * (10 : Int32)), ?_, ?_⟩
        · simp (disch := omega) only [f_X6_letterBehindCells, h21, hfw, f_X6_figureOf, iI_lit, iI_neg, iI_lt, iI_le, iI_eq, iI_add, iI_sub, iI_mul, iI_cl, q_let_r, q_jn_r, q_b1_r, q_b2_r, q_b3_r, if_true, if_false, eq_self, q_gd_in, q_up_s, q_up_n, upd_s, upd_n, if_pos, if_neg]
        · simp (disch := omega) only [f_X7_figure, iI_lit, iI_neg, iI_lt, iI_le, iI_eq, iI_add, iI_sub, iI_mul, iI_cl, q_let_r, q_jn_r, q_b1_r, q_b2_r, q_b3_r, if_true, if_false, eq_self, q_gd_in, q_up_s, q_up_n, upd_s, upd_n, if_pos, if_neg]
  by_cases h2 : k = 1 + w
  · rw [if_neg (by rw [iI_lt (by omega) (by omega) (by omega) (by omega)]; omega), if_pos (by rw [iI_le (by omega) (by omega) (by omega) (by omega)]; omega)]
    refine ⟨iI 32, ?_, rfl⟩
    simp (disch := omega) only [f_X6_letterBehindCells, h21, hfw, iI_lit, iI_neg, iI_lt, iI_le, iI_eq, iI_add, iI_sub, iI_mul, iI_cl, q_let_r, q_jn_r, q_b1_r, q_b2_r, q_b3_r, if_true, if_false, eq_self, q_gd_in, q_up_s, q_up_n, upd_s, upd_n, if_pos, if_neg]
  · rw [if_pos (by rw [iI_lt (by omega) (by omega) (by omega) (by omega)]; omega)]
    obtain ⟨r, e, hcs⟩ := fB (k - 1 - w - 1) (by omega) (by omega)
    refine ⟨r, ?_, e⟩
    rcases hcs with ⟨hb, ⟨hj, hr⟩ | ⟨hj, hr⟩⟩ | ⟨hb, ⟨hj, hr⟩ | ⟨hj, hr⟩ | ⟨hj, hr⟩⟩
    · subst hr
      simp (disch := omega) only [f_X6_letterBehindCells, h21, h22, hfw, figs_lo hb, f_X6_figureOf, iI_lit, iI_neg, iI_lt, iI_le, iI_eq, iI_add, iI_sub, iI_mul, iI_cl, q_let_r, q_jn_r, q_b1_r, q_b2_r, q_b3_r, if_true, if_false, eq_self, q_gd_in, q_up_s, q_up_n, upd_s, upd_n, if_pos, if_neg]
    · subst hr
      simp (disch := omega) only [f_X6_letterBehindCells, h21, h22, hfw, figs_lo hb, f_X6_figureOf, iI_lit, iI_neg, iI_lt, iI_le, iI_eq, iI_add, iI_sub, iI_mul, iI_cl, q_let_r, q_jn_r, q_b1_r, q_b2_r, q_b3_r, if_true, if_false, eq_self, q_gd_in, q_up_s, q_up_n, upd_s, upd_n, if_pos, if_neg]
    · subst hr
      simp (disch := omega) only [f_X6_letterBehindCells, h21, h22, hfw, figs_hi hb hB, f_X6_figureOf, iI_lit, iI_neg, iI_lt, iI_le, iI_eq, iI_add, iI_sub, iI_mul, iI_cl, q_let_r, q_jn_r, q_b1_r, q_b2_r, q_b3_r, if_true, if_false, eq_self, q_gd_in, q_up_s, q_up_n, upd_s, upd_n, if_pos, if_neg]
    · subst hr
      simp (disch := omega) only [f_X6_letterBehindCells, h21, h22, hfw, figs_hi hb hB, f_X6_figureOf, iI_lit, iI_neg, iI_lt, iI_le, iI_eq, iI_add, iI_sub, iI_mul, iI_cl, q_let_r, q_jn_r, q_b1_r, q_b2_r, q_b3_r, if_true, if_false, eq_self, q_gd_in, q_up_s, q_up_n, upd_s, upd_n, if_pos, if_neg]
    · subst hr
      simp (disch := omega) only [f_X6_letterBehindCells, h21, h22, hfw, figs_hi hb hB, f_X6_figureOf, iI_lit, iI_neg, iI_lt, iI_le, iI_eq, iI_add, iI_sub, iI_mul, iI_cl, q_let_r, q_jn_r, q_b1_r, q_b2_r, q_b3_r, if_true, if_false, eq_self, q_gd_in, q_up_s, q_up_n, upd_s, upd_n, if_pos, if_neg]
end
