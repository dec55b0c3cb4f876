section
/-- the rest of the relation speaks of these components alone -/
theorem q_I_text {x y x2 y2 : IS} {j : JS} (h : q_I x j y) (ht : q_It x2 y2) (hx : ∀ c, 8 ≤ c → x2 c = x c) (hy : ∀ c, 2 ≤ c → c ≤ 7 → y2 c = y c) : q_I x2 j y2 := by
  obtain ⟨-, n, hr, hp, hd, hc⟩ := h
  have e : ∀ k, w_row x2 k = w_row x k := fun k => by simp only [w_row, hx 8 (by decide), hx 9 (by decide), hx 10 (by decide), hx 14 (by decide)]
  refine ⟨ht, n, ?_, ?_, ?_, ?_⟩
  · obtain ⟨h1, h2, h3, h4, h5, h6⟩ := hr
    exact ⟨h1, h2, by rw [hx 13 (by decide)]; exact h3, by rw [hy 2 (by decide) (by decide)]; exact h4, by rw [hy 5 (by decide) (by decide)]; exact h5, fun k hk => by rw [e, hy 5 (by decide) (by decide)]; exact h6 k hk⟩
  · obtain ⟨p, h1, h2, h3, h4⟩ := hp
    refine ⟨p, h1, by rw [hx 28 (by decide)]; exact h2, by rw [hy 7 (by decide) (by decide)]; exact h3, fun i hi => ?_⟩
    have eS : ∀ k, w_S y2 p k = w_S y p k := fun k => by simp only [w_S, hy 6 (by decide) (by decide), hy 5 (by decide) (by decide)]
    rw [hx 25 (by decide), hx 26 (by decide), hx 27 (by decide), eS, eS]
    exact h4 i hi
  · obtain ⟨h1, h2, h3⟩ := hd
    unfold q_Id
    rw [hx 23 (by decide), hx 24 (by decide), hy 4 (by decide) (by decide)]
    exact ⟨h1, h2, h3⟩
  · obtain ⟨h1, h2⟩ := hc
    unfold q_Ic q_Ica
    rw [hx 15 (by decide), hx 16 (by decide), hx 17 (by decide), hx 18 (by decide), hx 19 (by decide), hx 20 (by decide), hx 21 (by decide), hx 22 (by decide), hy 5 (by decide) (by decide)]
    exact ⟨h1, h2⟩
theorem qt_write : qs_write q_I := by
  intro x j y hI a1
  obtain ⟨len, h1, h2, h3, h4⟩ := hI.1
  obtain ⟨a, ha1, ha2, rfl⟩ := iI_of a1
  by_cases hlo : a < 32
  · exact ⟨-1, x, y, by simp (disch := omega) only [f_X6_write, iI_lit, iI_neg, iI_lt, iI_le, iI_eq, iI_add, iI_sub, iI_mul, iI_cl, q_let_r, q_jn_r, q_b1_r, q_b2_r, q_b3_r, if_true, if_false, eq_self, q_gd_in, q_up_s, q_up_n, upd_s, upd_n, if_pos, if_neg], by simp (disch := omega) only [f_X7_write, iI_lit, iI_neg, iI_lt, iI_le, iI_eq, iI_add, iI_sub, iI_mul, iI_cl, q_let_r, q_jn_r, q_b1_r, q_b2_r, q_b3_r, if_true, if_false, eq_self, q_gd_in, q_up_s, q_up_n, upd_s, upd_n, if_pos, if_neg], hI⟩
  by_cases hhi : 126 < a
  · exact ⟨-1, x, y, by simp (disch := omega) only [f_X6_write, iI_lit, iI_neg, iI_lt, iI_le, iI_eq, iI_add, iI_sub, iI_mul, iI_cl, q_let_r, q_jn_r, q_b1_r, q_b2_r, q_b3_r, if_true, if_false, eq_self, q_gd_in, q_up_s, q_up_n, upd_s, upd_n, if_pos, if_neg], by simp (disch := omega) only [f_X7_write, iI_lit, iI_neg, iI_lt, iI_le, iI_eq, iI_add, iI_sub, iI_mul, iI_cl, q_let_r, q_jn_r, q_b1_r, q_b2_r, q_b3_r, if_true, if_false, eq_self, q_gd_in, q_up_s, q_up_n, upd_s, upd_n, if_pos, if_neg], hI⟩
  by_cases hfu : len = 200
  · subst hfu
    exact ⟨-3, x, y, by simp (disch := omega) only [f_X6_write, h2, iI_lit, iI_neg, iI_lt, iI_le, iI_eq, iI_add, iI_sub, iI_mul, iI_cl, q_let_r, q_jn_r, q_b1_r, q_b2_r, q_b3_r, if_true, if_false, eq_self, q_gd_in, q_up_s, q_up_n, upd_s, upd_n, if_pos, if_neg], by simp (disch := omega) only [f_X7_write, h3, iI_lit, iI_neg, iI_lt, iI_le, iI_eq, iI_add, iI_sub, iI_mul, iI_cl, q_let_r, q_jn_r, q_b1_r, q_b2_r, q_b3_r, if_true, if_false, eq_self, q_gd_in, q_up_s, q_up_n, upd_s, upd_n, if_pos, if_neg], hI⟩
  have e1 : f_X4_append x (iI a) = some (q_up (q_up x 0 (upd (x 0) len (iI a))) 2 (fun _ => iI (len + 1))) := by
    simp (disch := omega) only [f_X4_append, h2, Int.toNat_natCast, iI_lit, iI_neg, iI_lt, iI_le, iI_eq, iI_add, iI_sub, iI_mul, iI_cl, q_let_r, q_jn_r, q_b1_r, q_b2_r, q_b3_r, if_true, if_false, eq_self, q_gd_in, q_up_s, q_up_n, upd_s, upd_n, if_pos, if_neg]
  refine ⟨iI (len + 1), q_up (q_up x 0 (upd (x 0) len (iI a))) 2 (fun _ => iI (len + 1)), q_up (q_up y 1 (upd (y 1) len (iI a))) 0 (fun _ => iI (len + 1)), ?_, ?_, ?_⟩
  · simp (disch := omega) only [f_X6_write, q_b1_s e1, h2, iI_lit, iI_neg, iI_lt, iI_le, iI_eq, iI_add, iI_sub, iI_mul, iI_cl, q_let_r, q_jn_r, q_b1_r, q_b2_r, q_b3_r, if_true, if_false, eq_self, q_gd_in, q_up_s, q_up_n, upd_s, upd_n, if_pos, if_neg]
  · simp (disch := omega) only [f_X7_write, h3, Int.toNat_natCast, iI_lit, iI_neg, iI_lt, iI_le, iI_eq, iI_add, iI_sub, iI_mul, iI_cl, q_let_r, q_jn_r, q_b1_r, q_b2_r, q_b3_r, if_true, if_false, eq_self, q_gd_in, q_up_s, q_up_n, upd_s, upd_n, if_pos, if_neg]
  · refine q_I_text hI ⟨len + 1, by omega, ?_, ?_, ?_⟩ (fun c hc => ?_) (fun c hc hc2 => ?_)
    · simp (disch := omega) only [iI_lit, iI_neg, iI_lt, iI_le, iI_eq, iI_add, iI_sub, iI_mul, iI_cl, q_let_r, q_jn_r, q_b1_r, q_b2_r, q_b3_r, if_true, if_false, eq_self, q_gd_in, q_up_s, q_up_n, upd_s, upd_n, if_pos, if_neg]
      rfl
    · simp (disch := omega) only [iI_lit, iI_neg, iI_lt, iI_le, iI_eq, iI_add, iI_sub, iI_mul, iI_cl, q_let_r, q_jn_r, q_b1_r, q_b2_r, q_b3_r, if_true, if_false, eq_self, q_gd_in, q_up_s, q_up_n, upd_s, upd_n, if_pos, if_neg]
      rfl
    · intro k hk
      simp (disch := omega) only [iI_lit, iI_neg, iI_lt, iI_le, iI_eq, iI_add, iI_sub, iI_mul, iI_cl, q_let_r, q_jn_r, q_b1_r, q_b2_r, q_b3_r, if_true, if_false, eq_self, q_gd_in, q_up_s, q_up_n, upd_s, upd_n, if_pos, if_neg]
      by_cases hkl : k = len
      · subst hkl; simp (disch := omega) only [iI_lit, iI_neg, iI_lt, iI_le, iI_eq, iI_add, iI_sub, iI_mul, iI_cl, q_let_r, q_jn_r, q_b1_r, q_b2_r, q_b3_r, if_true, if_false, eq_self, q_gd_in, q_up_s, q_up_n, upd_s, upd_n, if_pos, if_neg]
      · simp (disch := omega) only [iI_lit, iI_neg, iI_lt, iI_le, iI_eq, iI_add, iI_sub, iI_mul, iI_cl, q_let_r, q_jn_r, q_b1_r, q_b2_r, q_b3_r, if_true, if_false, eq_self, q_gd_in, q_up_s, q_up_n, upd_s, upd_n, if_pos, if_neg]
        exact h4 k (by omega)
    · simp (disch := omega) only [iI_lit, iI_neg, iI_lt, iI_le, iI_eq, iI_add, iI_sub, iI_mul, iI_cl, q_let_r, q_jn_r, q_b1_r, q_b2_r, q_b3_r, if_true, if_false, eq_self, q_gd_in, q_up_s, q_up_n, upd_s, upd_n, if_pos, if_neg]
    · simp (disch := omega) only [iI_lit, iI_neg, iI_lt, iI_le, iI_eq, iI_add, iI_sub, iI_mul, iI_cl, q_let_r, q_jn_r, q_b1_r, q_b2_r, q_b3_r, if_true, if_false, eq_self, q_gd_in, q_up_s, q_up_n, upd_s, upd_n, if_pos, if_neg]
theorem qt_wipe : qs_wipe q_I := by
  intro x j y hI
  obtain ⟨len, h1, h2, h3, h4⟩ := hI.1
  refine ⟨iI len, q_up x 2 (fun _ => 0), q_up y 0 (fun _ => 0), ?_, ?_, ?_⟩
  · simp (disch := omega) only [f_X6_wipe, h2, iI_lit, iI_neg, iI_lt, iI_le, iI_eq, iI_add, iI_sub, iI_mul, iI_cl, q_let_r, q_jn_r, q_b1_r, q_b2_r, q_b3_r, if_true, if_false, eq_self, q_gd_in, q_up_s, q_up_n, upd_s, upd_n, if_pos, if_neg]
  · simp (disch := omega) only [f_X7_wipe, h3, iI_lit, iI_neg, iI_lt, iI_le, iI_eq, iI_add, iI_sub, iI_mul, iI_cl, q_let_r, q_jn_r, q_b1_r, q_b2_r, q_b3_r, if_true, if_false, eq_self, q_gd_in, q_up_s, q_up_n, upd_s, upd_n, if_pos, if_neg]
  · refine q_I_text hI ⟨0, by omega, ?_, ?_, fun k hk => absurd hk (by omega)⟩ (fun c hc => ?_) (fun c hc hc2 => ?_) <;> simp (disch := omega) only [iI_lit, iI_neg, iI_lt, iI_le, iI_eq, iI_add, iI_sub, iI_mul, iI_cl, q_let_r, q_jn_r, q_b1_r, q_b2_r, q_b3_r, if_true, if_false, eq_self, q_gd_in, q_up_s, q_up_n, upd_s, upd_n, if_pos, if_neg] <;> rfl
theorem qt_noise : qs_noise q_I := by
  intro x j y hI a1
  obtain ⟨-, n, -, -, ⟨hd, -⟩, -⟩ := hI
  obtain ⟨a, ha1, ha2, rfl⟩ := iI_of a1
  by_cases hb : a < 0 ∨ 99 < a
  · exact ⟨-1, by simp (disch := omega) only [f_X6_noise, isPow_f, iI_lit, iI_neg, iI_lt, iI_le, iI_eq, iI_add, iI_sub, iI_mul, iI_cl, q_let_r, q_jn_r, q_b1_r, q_b2_r, q_b3_r, if_true, if_false, eq_self, q_gd_in, q_up_s, q_up_n, upd_s, upd_n, if_pos, if_neg], by simp (disch := omega) only [f_X7_noise, isIn_f, iI_lit, iI_neg, iI_lt, iI_le, iI_eq, iI_add, iI_sub, iI_mul, iI_cl, q_let_r, q_jn_r, q_b1_r, q_b2_r, q_b3_r, if_true, if_false, eq_self, q_gd_in, q_up_s, q_up_n, upd_s, upd_n, if_pos, if_neg]⟩
  · by_cases h8 : 8 ≤ a
    · exact ⟨0, by simp (disch := omega) only [f_X6_noise, isPow_t, iI_lit, iI_neg, iI_lt, iI_le, iI_eq, iI_add, iI_sub, iI_mul, iI_cl, q_let_r, q_jn_r, q_b1_r, q_b2_r, q_b3_r, if_true, if_false, eq_self, q_gd_in, q_up_s, q_up_n, upd_s, upd_n, if_pos, if_neg], by simp (disch := omega) only [f_X7_noise, isIn_t, iI_lit, iI_neg, iI_lt, iI_le, iI_eq, iI_add, iI_sub, iI_mul, iI_cl, q_let_r, q_jn_r, q_b1_r, q_b2_r, q_b3_r, if_true, if_false, eq_self, q_gd_in, q_up_s, q_up_n, upd_s, upd_n, if_pos, if_neg]⟩
    · refine ⟨y 4 a.toNat, ?_, ?_⟩
      · simp (disch := omega) only [f_X6_noise, isPow_t, iI_lit, iI_neg, iI_lt, iI_le, iI_eq, iI_add, iI_sub, iI_mul, iI_cl, q_let_r, q_jn_r, q_b1_r, q_b2_r, q_b3_r, if_true, if_false, eq_self, q_gd_in, q_up_s, q_up_n, upd_s, upd_n, if_pos, if_neg]
        rw [(hd a.toNat (by omega)).1]
      · simp (disch := omega) only [f_X7_noise, isIn_t, iI_lit, iI_neg, iI_lt, iI_le, iI_eq, iI_add, iI_sub, iI_mul, iI_cl, q_let_r, q_jn_r, q_b1_r, q_b2_r, q_b3_r, if_true, if_false, eq_self, q_gd_in, q_up_s, q_up_n, upd_s, upd_n, if_pos, if_neg]
end
