section
theorem undoL {p : Nat} (hp : p ≤ 5) (k : IS → Option (Int32 × IS)) : ∀ (t fuel : Nat) (a : Int) (y : IS), y 7 0 = iI p → 0 ≤ a → a + t = 102 → t < fuel → ∃ y' : IS, f_X7_undo_L22 k fuel (iI a) y = k y' ∧ (∀ c, c ≠ 5 → y' c = y c) ∧ (∀ i : Nat, (i : Int) < a → y' 5 i = y 5 i) ∧ ∀ i : Nat, a ≤ (i : Int) → i < 102 → y' 5 i = y 6 (102 * p + i) := by
  intro t
  induction t with
  | zero =>
    intro fuel a y hy h0 h1 h2
    obtain ⟨fuel, rfl⟩ : ∃ z, fuel = z + 1 := ⟨fuel - 1, by omega⟩
    refine ⟨y, ?_, fun _ _ => rfl, fun _ _ => rfl, fun i h h' => by omega⟩
    show f_X7_undo_L22F k (f_X7_undo_L22 k fuel) (iI a) y = _
    simp (disch := omega) only [f_X7_undo_L22F, hy, iI_lit, iI_neg, iI_lt, iI_le, iI_eq, iI_add, iI_sub, iI_mul, iI_cl, q_let_r, q_jn_r, q_b1_r, q_b2_r, q_b3_r, if_true, if_false, eq_self, q_gd_in, q_up_s, q_up_n, upd_s, upd_n, if_pos, if_neg]
  | succ t ih =>
    intro fuel a y hy h0 h1 h2
    obtain ⟨fuel, rfl⟩ : ∃ z, fuel = z + 1 := ⟨fuel - 1, by omega⟩
    obtain ⟨b, rfl⟩ : ∃ b : Nat, a = (b : Int) := ⟨a.toNat, by omega⟩
    have t1 : (b : Int).toNat = b := by omega
    have t2 : (102 * (p : Int) + (b : Int)).toNat = 102 * p + b := by omega
    obtain ⟨y', e, p1, p2, p3⟩ := ih fuel ((b : Int) + 1) (q_up y 5 (upd (y 5) b (y 6 (102 * p + b)))) (by simp (disch := omega) only [iI_lit, iI_neg, iI_lt, iI_le, iI_eq, iI_add, iI_sub, iI_mul, iI_cl, q_let_r, q_jn_r, q_b1_r, q_b2_r, q_b3_r, if_true, if_false, eq_self, q_gd_in, q_up_s, q_up_n, upd_s, upd_n, if_pos, if_neg]; exact hy) (by omega) (by omega) (by omega)
    refine ⟨y', ?_, fun c hc => ?_, fun i hi => ?_, fun i hi hi2 => ?_⟩
    · show f_X7_undo_L22F k (f_X7_undo_L22 k fuel) (iI (b : Int)) y = _
      simp (disch := omega) only [f_X7_undo_L22F, hy, t1, t2, iI_lit, iI_neg, iI_lt, iI_le, iI_eq, iI_add, iI_sub, iI_mul, iI_cl, q_let_r, q_jn_r, q_b1_r, q_b2_r, q_b3_r, if_true, if_false, eq_self, q_gd_in, q_up_s, q_up_n, upd_s, upd_n, if_pos, if_neg]
      exact e
    · rw [p1 c hc]; simp (disch := omega) only [iI_lit, iI_neg, iI_lt, iI_le, iI_eq, iI_add, iI_sub, iI_mul, iI_cl, q_let_r, q_jn_r, q_b1_r, q_b2_r, q_b3_r, if_true, if_false, eq_self, q_gd_in, q_up_s, q_up_n, upd_s, upd_n, if_pos, if_neg]
    · rw [p2 i (by omega)]; simp (disch := omega) only [iI_lit, iI_neg, iI_lt, iI_le, iI_eq, iI_add, iI_sub, iI_mul, iI_cl, q_let_r, q_jn_r, q_b1_r, q_b2_r, q_b3_r, if_true, if_false, eq_self, q_gd_in, q_up_s, q_up_n, upd_s, upd_n, if_pos, if_neg]
    · by_cases hib : i = b
      · subst hib
        rw [p2 i (by omega)]; simp (disch := omega) only [iI_lit, iI_neg, iI_lt, iI_le, iI_eq, iI_add, iI_sub, iI_mul, iI_cl, q_let_r, q_jn_r, q_b1_r, q_b2_r, q_b3_r, if_true, if_false, eq_self, q_gd_in, q_up_s, q_up_n, upd_s, upd_n, if_pos, if_neg]
      · rw [p3 i (by omega) hi2]; simp (disch := omega) only [iI_lit, iI_neg, iI_lt, iI_le, iI_eq, iI_add, iI_sub, iI_mul, iI_cl, q_let_r, q_jn_r, q_b1_r, q_b2_r, q_b3_r, if_true, if_false, eq_self, q_gd_in, q_up_s, q_up_n, upd_s, upd_n, if_pos, if_neg]
theorem slideBack_s {x : IS} {n : Nat} (hn : x 13 0 = iI n) (n1 : 1 ≤ n) (n2 : n ≤ 48) (v u : Int32) : f_X3_slideBack x v u = some (q_up (q_up (q_up (q_up (q_up x 8 (va_cpy (x 8) (x 8) 0 1 (n - 1))) 9 (va_cpy (x 9) (x 9) 0 1 (n - 1))) 8 (upd (va_cpy (x 8) (x 8) 0 1 (n - 1)) 0 v)) 9 (upd (va_cpy (x 9) (x 9) 0 1 (n - 1)) 0 u)) 15 (fun _ => iI 1)) := by
  have g1 := cpyu (n := 48) (v := iI ((n : Int) - 1)) (m := (n : Int) - 1) rfl (by omega) (by omega) (by omega)
  have e1 : (1 : Int32).toNatClampNeg = 1 := by decide
  have e0 : (0 : Int32).toNatClampNeg = 0 := by decide
  have t1 : ((n : Int) - 1).toNat = n - 1 := by omega
  have es : iI (n : Int) - 1 = iI ((n : Int) - 1) := iI_sub _ 1
  unfold f_X3_slideBack
  simp (disch := omega) only [q_let_r, hn, es, has_t hn n2, q_b1_r]
  rw [if_neg (by decide), q_gd_t g1, q_gd_t g1]
  simp (disch := omega) only [e1, e0, t1, q_gd_in, q_up_s, q_up_n, iI_cl]
  rfl
/-- a change taken back -/
theorem takeBack_s {x : IS} {n : Nat} {kd pl v : Int32} {F G : Nat → Int32} (hn : x 13 0 = iI n) (n1 : 1 ≤ n) (n2 : n ≤ 48) (hU : w_U n kd pl v F G) (hw : ∀ k, w_pl n k → w_row x k = F k) : ∃ x', f_X3_takeBack x kd pl v = some x' ∧ (∀ c, c ≠ 8 → c ≠ 9 → c ≠ 10 → c ≠ 14 → c ≠ 15 → x' c = x c) ∧ x' 15 0 = iI 1 ∧ ∀ k, w_pl n k → w_row x' k = G k := by
  obtain ⟨hV, h⟩ := hU
  rcases h with ⟨rfl, b, hb, rfl, rfl, e⟩ | ⟨rfl, b, hb, rfl, rfl, e⟩ | ⟨rfl, b, hb, rfl, rfl, e⟩ | ⟨rfl, rfl, e⟩ | ⟨rfl, rfl, rfl, e, f⟩
  · have hs := setPower_s (a := b) hn n2 (by omega) (by omega) (G b)
    rw [Int.toNat_natCast] at hs
    unfold f_X3_takeBack
    rw [if_pos rfl, q_b1_s hs]
    refine ⟨_, rfl, ?_, ?_, ?_⟩
    · intro c h1 h2 h3 h4 h5; simp (disch := omega) only [q_up_n]
    · rw [q_up_s]
    · intro k hk
      rw [w_row_8 (by omega)]
      by_cases h : k = b
      · rw [if_pos h, h]
      · rw [if_neg h, hw k hk, e k hk h]
  · have hs := setLeft_s (a := b) hn n2 (by omega) (by omega) (G (48 + b))
    rw [Int.toNat_natCast] at hs
    unfold f_X3_takeBack
    rw [if_neg (by decide), if_pos rfl, q_b1_s hs]
    refine ⟨_, rfl, ?_, ?_, ?_⟩
    · intro c h1 h2 h3 h4 h5; simp (disch := omega) only [q_up_n]
    · rw [q_up_s]
    · intro k hk
      rw [w_row_9 (by omega)]
      by_cases h : k = 48 + b
      · rw [if_pos h, h]
      · rw [if_neg h, hw k hk, e k hk h]
  · have hlk := hV.2.2.1 b hb
    have hs := setLook_s (x := x) (a := b) (b := (G (96 + b)).toInt) (by omega) (by omega) (by rw [Int.toNat_natCast]; exact hlk.1) (by rw [Int.toNat_natCast]; exact hlk.2)
    rw [Int.toNat_natCast, iI_self] at hs
    unfold f_X3_takeBack
    rw [if_neg (by decide), if_neg (by decide), if_pos rfl, q_b1_s hs]
    refine ⟨_, rfl, ?_, ?_, ?_⟩
    · intro c h1 h2 h3 h4 h5; simp (disch := omega) only [q_up_n]
    · rw [q_up_s]
    · intro k hk
      rw [w_row_10 (by omega)]
      by_cases h : k = 96 + b
      · rw [if_pos h, h]
      · rw [if_neg h, hw k hk, e k hk h]
  · unfold f_X3_takeBack
    rw [if_neg (by decide), if_neg (by decide), if_neg (by decide), if_pos rfl, q_b1_s (setMode_s x _)]
    refine ⟨_, rfl, ?_, ?_, ?_⟩
    · intro c h1 h2 h3 h4 h5; simp (disch := omega) only [q_up_n]
    · rw [q_up_s]
    · intro k hk
      have := w_pl_102 n2 hk
      rw [w_row_14]
      by_cases h : 101 ≤ k
      · rw [if_pos h, show k = 101 by omega]
      · rw [if_neg h, hw k hk, e k hk (by omega)]
  · unfold f_X3_takeBack
    rw [if_neg (by decide), if_neg (by decide), if_neg (by decide), if_neg (by decide), q_b1_s (slideBack_s hn n1 n2 _ _)]
    refine ⟨_, rfl, ?_, ?_, ?_⟩
    · intro c h1 h2 h3 h4 h5; simp (disch := omega) only [q_up_n]
    · rw [q_up_s]
    · intro k hk
      rcases hk with hk | ⟨hk1, hk2⟩ | ⟨hk1, hk2⟩
      · rw [w_row_p _ (by omega)]
        by_cases h0 : k = 0
        · subst h0; simp (disch := omega) only [iI_lit, iI_neg, iI_lt, iI_le, iI_eq, iI_add, iI_sub, iI_mul, iI_cl, q_let_r, q_jn_r, q_b1_r, q_b2_r, q_b3_r, if_true, if_false, eq_self, q_gd_in, q_up_s, q_up_n, upd_s, upd_n, if_pos, if_neg]
        · obtain ⟨m, rfl⟩ : ∃ m, k = m + 1 := ⟨k - 1, by omega⟩
          simp (disch := omega) only [va_cpy_in, iI_lit, iI_neg, iI_lt, iI_le, iI_eq, iI_add, iI_sub, iI_mul, iI_cl, q_let_r, q_jn_r, q_b1_r, q_b2_r, q_b3_r, if_true, if_false, eq_self, q_gd_in, q_up_s, q_up_n, upd_s, upd_n, if_pos, if_neg]
          rw [show 0 + (m + 1 - 1) = m by omega, (e m hk).1, ← hw m (Or.inl (by omega)), w_row_p _ (by omega)]
      · obtain ⟨m, rfl⟩ : ∃ m, k = 48 + m := ⟨k - 48, by omega⟩
        rw [w_row_l _ (by omega)]
        by_cases h0 : m = 0
        · subst h0; simp (disch := omega) only [Nat.add_zero, iI_lit, iI_neg, iI_lt, iI_le, iI_eq, iI_add, iI_sub, iI_mul, iI_cl, q_let_r, q_jn_r, q_b1_r, q_b2_r, q_b3_r, if_true, if_false, eq_self, q_gd_in, q_up_s, q_up_n, upd_s, upd_n, if_pos, if_neg]
        · obtain ⟨r, rfl⟩ : ∃ r, m = r + 1 := ⟨m - 1, by omega⟩
          simp (disch := omega) only [va_cpy_in, iI_lit, iI_neg, iI_lt, iI_le, iI_eq, iI_add, iI_sub, iI_mul, iI_cl, q_let_r, q_jn_r, q_b1_r, q_b2_r, q_b3_r, if_true, if_false, eq_self, q_gd_in, q_up_s, q_up_n, upd_s, upd_n, if_pos, if_neg]
          rw [show 0 + (r + 1 - 1) = r by omega, (e r (by omega)).2, ← hw (48 + r) (Or.inr (Or.inl ⟨by omega, by omega⟩)), w_row_l _ (by omega)]
      · rw [f k hk1 hk2, ← hw k (Or.inr (Or.inr ⟨hk1, hk2⟩))]
        unfold w_row
        simp (disch := omega) only [iI_lit, iI_neg, iI_lt, iI_le, iI_eq, iI_add, iI_sub, iI_mul, iI_cl, q_let_r, q_jn_r, q_b1_r, q_b2_r, q_b3_r, if_true, if_false, eq_self, q_gd_in, q_up_s, q_up_n, upd_s, upd_n, if_pos, if_neg]
theorem qt_undo : qs_undo q_I := by
  intro x j y hI
  obtain ⟨ht, n, hr, ⟨p, hp, p28, p7, pch⟩, hd, hc⟩ := id hI
  obtain ⟨n1, n2, x13, y2, hV, hw⟩ := id hr
  by_cases h0 : p = 0
  · subst h0
    refine ⟨iI (-2), x, y, ?_, ?_, hI⟩
    · unfold f_X6_undo
      rw [if_neg (by rw [p28]; decide)]; rfl
    · unfold f_X7_undo
      rw [if_pos (by rw [p7]; rfl)]; rfl
  obtain ⟨m, rfl⟩ : ∃ m, p = m + 1 := ⟨p - 1, by omega⟩
  have em : ((m + 1 : Nat) : Int) - 1 = (m : Int) := by omega
  have hU := pch m (by omega)
  rw [w_S_ge (Nat.le_refl (m + 1))] at hU
  have x2c : ∀ c, c ≠ 28 → q_up x 28 (fun _ => iI (m : Int)) c = x c := fun c hc => q_up_n _ _ hc
  have hw2 : ∀ k, w_pl n k → w_row (q_up x 28 (fun _ => iI (m : Int))) k = y 5 k := fun k hk => by rw [w_row_c (x2c 8 (by omega)) (x2c 9 (by omega)) (x2c 10 (by omega)) (x2c 14 (by omega))]; exact hw k hk
  obtain ⟨x3, ex3, a1, a2, a3⟩ := takeBack_s (x := q_up x 28 (fun _ => iI (m : Int))) (by rw [x2c 13 (by omega)]; exact x13) n1 n2 hU hw2
  obtain ⟨y3, ey3, b1, b2, b3⟩ := undoL (p := m) (by omega) (fun x5 => some ((x5 7 0), x5)) 102 1000 0 (q_up y 7 (fun _ => iI (m : Int))) (by rw [q_up_s]) (by omega) (by omega) (by omega)
  have y35 : ∀ k, k < 102 → y3 5 k = w_S y (m + 1) m k := fun k hk => by
    rw [b3 k (by omega) hk, w_S_lt (by omega), q_up_n _ _ (by omega)]
  refine ⟨iI (m : Int), x3, y3, ?_, ?_, w_change hI hr ?_ ?_ a2 ?_ ?_ ?_⟩
  · simp (disch := omega) only [f_X6_undo, p28, em, Int.toNat_natCast, ex3, a1, iI_lit, iI_neg, iI_lt, iI_le, iI_eq, iI_add, iI_sub, iI_mul, iI_cl, q_let_r, q_jn_r, q_b1_r, q_b2_r, q_b3_r, if_true, if_false, eq_self, q_gd_in, q_up_s, q_up_n, upd_s, upd_n, if_pos, if_neg]
  · simp (disch := omega) only [f_X7_undo, p7, em, iI_lit, iI_neg, iI_lt, iI_le, iI_eq, iI_add, iI_sub, iI_mul, iI_cl, q_let_r, q_jn_r, q_b1_r, q_b2_r, q_b3_r, if_true, if_false, eq_self, q_gd_in, q_up_s, q_up_n, upd_s, upd_n, if_pos, if_neg]
    rw [ey3]
    rw [b1 7 (by omega), q_up_s]
  · intro c h1 h2 h3 h4 h5 h6
    rw [a1 c h2 h3 h4 h5 h6]; exact x2c c (by omega)
  · intro c h5 h6 h7
    rw [b1 c h5, q_up_n _ _ h7]
  · exact w_V_c n2 hU.1 (fun k hk => y35 k (w_pl_102 n2 hk))
  · intro k hk
    rw [a3 k hk, y35 k (w_pl_102 n2 hk)]
  · refine ⟨m, by omega, ?_, ?_, fun i hi => ?_⟩
    · rw [a1 28 (by omega) (by omega) (by omega) (by omega) (by omega), q_up_s]
    · rw [b1 7 (by omega), q_up_s]
    · have e25 : ∀ c, c = 25 ∨ c = 26 ∨ c = 27 → x3 c = x c := fun c hc => by rw [a1 c (by omega) (by omega) (by omega) (by omega) (by omega)]; exact x2c c (by omega)
      rw [e25 25 (by omega), e25 26 (by omega), e25 27 (by omega)]
      have y36 : y3 6 = y 6 := by rw [b1 6 (by omega), q_up_n _ _ (by omega)]
      refine w_U_c n1 n2 (pch i (by omega)) (fun k hk => ?_) (fun k hk => ?_)
      · by_cases h : i + 1 < m
        · rw [w_S_lt h, w_S_lt (by omega), y36]
        · rw [w_S_ge (by omega), y35 k (w_pl_102 n2 hk), show i + 1 = m by omega]
      · rw [w_S_lt hi, w_S_lt (by omega), y36]
end
