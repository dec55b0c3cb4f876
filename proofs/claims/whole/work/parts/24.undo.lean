section
theorem cpyd {n : Nat} {v : Int32} {m : Int} (hv : v = iI m) (h0 : 0 ≤ m) (h1 : 1 + m ≤ n) (hn : n < 1000) : ¬ (1 : Int32) < 0 ∧ ¬ (0 : Int32) < 0 ∧ ¬ v < 0 ∧ (1 : Int32).toNatClampNeg + v.toNatClampNeg ≤ n ∧ (0 : Int32).toNatClampNeg + v.toNatClampNeg ≤ n := by
  subst hv
  refine ⟨by decide, by decide, ?_, ?_, ?_⟩
  · simp (disch := omega) only [iI_lit, iI_neg, iI_lt, iI_le, iI_eq, iI_add, iI_sub, iI_mul, iI_cl, q_let_r, q_jn_r, q_b1_r, q_b2_r, q_b3_r, if_true, if_false, eq_self, q_gd_in, q_up_s, q_up_n, upd_s, upd_n]; omega
  · simp (disch := omega) only [iI_lit, iI_neg, iI_lt, iI_le, iI_eq, iI_add, iI_sub, iI_mul, iI_cl, q_let_r, q_jn_r, q_b1_r, q_b2_r, q_b3_r, if_true, if_false, eq_self, q_gd_in, q_up_s, q_up_n, upd_s, upd_n]; show 1 + _ ≤ _; omega
  · simp (disch := omega) only [iI_lit, iI_neg, iI_lt, iI_le, iI_eq, iI_add, iI_sub, iI_mul, iI_cl, q_let_r, q_jn_r, q_b1_r, q_b2_r, q_b3_r, if_true, if_false, eq_self, q_gd_in, q_up_s, q_up_n, upd_s, upd_n]; show 0 + _ ≤ _; omega
theorem cpyu {n : Nat} {v : Int32} {m : Int} (hv : v = iI m) (h0 : 0 ≤ m) (h1 : 1 + m ≤ n) (hn : n < 1000) : ¬ (0 : Int32) < 0 ∧ ¬ (1 : Int32) < 0 ∧ ¬ v < 0 ∧ (0 : Int32).toNatClampNeg + v.toNatClampNeg ≤ n ∧ (1 : Int32).toNatClampNeg + v.toNatClampNeg ≤ n := by
  obtain ⟨a, b, c, d, e⟩ := cpyd hv h0 h1 hn
  exact ⟨b, a, c, e, d⟩
theorem va_cpy_in {f g : Nat → Int32} {sp dp n k : Nat} (h1 : dp ≤ k) (h2 : k < dp + n) : va_cpy f g sp dp n k = f (sp + (k - dp)) := if_pos ⟨h1, h2⟩
theorem va_cpy_out {f g : Nat → Int32} {sp dp n k : Nat} (h : k < dp ∨ dp + n ≤ k) : va_cpy f g sp dp n k = g k := if_neg (by omega)
/-- forgetOldest -/
theorem forget_s (x : IS) : ∃ x', f_X2_forgetOldest x = some x' ∧ (∀ c, c < 25 → x' c = x c) ∧ x' 28 0 = iI 5 ∧ ∀ i, i < 5 → x' 25 i = x 25 (i + 1) ∧ x' 26 i = x 26 (i + 1) ∧ x' 27 i = x 27 (i + 1) := by
  have g1 := cpyd (n := 6) (v := (5 : Int32)) (m := 5) rfl (by omega) (by omega) (by omega)
  unfold f_X2_forgetOldest
  simp (disch := omega) only [q_let_r, q_up_s, q_up_n]
  rw [q_gd_t g1, q_gd_t g1, q_gd_t g1]
  refine ⟨_, rfl, ?_⟩
  · refine ⟨fun c hc => by simp (disch := omega) only [q_up_s, q_up_n], by simp (disch := omega) only [q_up_s, q_up_n]; rfl, fun i hi => ?_⟩
    have e1 : (1 : Int32).toNatClampNeg = 1 := by decide
    have e0 : (0 : Int32).toNatClampNeg = 0 := by decide
    have e5 : (5 : Int32).toNatClampNeg = 5 := by decide
    simp (disch := omega) only [q_up_s, q_up_n, e1, e0, e5, va_cpy_in]
    simp [Nat.add_comm]
/-- keep -/
theorem keep_s {x : IS} {p : Nat} (hp : p ≤ 6) (h28 : x 28 0 = iI p) (kd pl v : Int32) : ∃ (x' : IS) (q : Nat), f_X2_keep x kd pl v = some x' ∧ q = min p 5 ∧ (∀ c, c < 25 → x' c = x c) ∧ x' 28 0 = iI ((q : Int) + 1) ∧ (∀ i, i < q → x' 25 i = x 25 (i + (p - q)) ∧ x' 26 i = x 26 (i + (p - q)) ∧ x' 27 i = x 27 (i + (p - q))) ∧ x' 25 q = kd ∧ x' 26 q = pl ∧ x' 27 q = v := by
  have key : ∀ (z : IS) (q : Nat), q ≤ 5 → z 28 0 = iI q → ∃ z' : IS, (q_gd (q_in (z 28 0) 6) (
    q_let (q_up z 25 (upd (z 25) (z 28 0).toNatClampNeg kd)) fun x6 =>
    q_gd (q_in (x6 28 0) 6) (
    q_let (q_up x6 26 (upd (x6 26) (x6 28 0).toNatClampNeg pl)) fun x8 =>
    q_gd (q_in (x8 28 0) 6) (
    q_let (q_up x8 27 (upd (x8 27) (x8 28 0).toNatClampNeg v)) fun x10 =>
    q_let (q_up x10 28 (fun _ => ((x10 28 0) + (1 : Int32)))) fun x11 =>
    some x11)))) = some z' ∧ (∀ c, c < 25 → z' c = z c) ∧ z' 28 0 = iI ((q : Int) + 1) ∧ (∀ i, i < q → z' 25 i = z 25 i ∧ z' 26 i = z 26 i ∧ z' 27 i = z 27 i) ∧ z' 25 q = kd ∧ z' 26 q = pl ∧ z' 27 q = v := by
    intro z q hq hz
    simp (disch := omega) only [hz, Int.toNat_natCast, iI_lit, iI_neg, iI_lt, iI_le, iI_eq, iI_add, iI_sub, iI_mul, iI_cl, q_let_r, q_jn_r, q_b1_r, q_b2_r, q_b3_r, if_true, if_false, eq_self, q_gd_in, q_up_s, q_up_n, upd_s, upd_n, if_pos, if_neg]
    refine ⟨_, rfl, ?_⟩
    · refine ⟨fun c hc => by simp (disch := omega) only [iI_lit, iI_neg, iI_lt, iI_le, iI_eq, iI_add, iI_sub, iI_mul, iI_cl, q_let_r, q_jn_r, q_b1_r, q_b2_r, q_b3_r, if_true, if_false, eq_self, q_gd_in, q_up_s, q_up_n, upd_s, upd_n, if_pos, if_neg], by simp (disch := omega) only [iI_lit, iI_neg, iI_lt, iI_le, iI_eq, iI_add, iI_sub, iI_mul, iI_cl, q_let_r, q_jn_r, q_b1_r, q_b2_r, q_b3_r, if_true, if_false, eq_self, q_gd_in, q_up_s, q_up_n, upd_s, upd_n, if_pos, if_neg], fun i hi => ?_, ?_, ?_, ?_⟩
      · simp (disch := omega) only [and_self, iI_lit, iI_neg, iI_lt, iI_le, iI_eq, iI_add, iI_sub, iI_mul, iI_cl, q_let_r, q_jn_r, q_b1_r, q_b2_r, q_b3_r, if_true, if_false, eq_self, q_gd_in, q_up_s, q_up_n, upd_s, upd_n, if_pos, if_neg]
      · simp (disch := omega) only [iI_lit, iI_neg, iI_lt, iI_le, iI_eq, iI_add, iI_sub, iI_mul, iI_cl, q_let_r, q_jn_r, q_b1_r, q_b2_r, q_b3_r, if_true, if_false, eq_self, q_gd_in, q_up_s, q_up_n, upd_s, upd_n, if_pos, if_neg]
      · simp (disch := omega) only [iI_lit, iI_neg, iI_lt, iI_le, iI_eq, iI_add, iI_sub, iI_mul, iI_cl, q_let_r, q_jn_r, q_b1_r, q_b2_r, q_b3_r, if_true, if_false, eq_self, q_gd_in, q_up_s, q_up_n, upd_s, upd_n, if_pos, if_neg]
      · simp (disch := omega) only [iI_lit, iI_neg, iI_lt, iI_le, iI_eq, iI_add, iI_sub, iI_mul, iI_cl, q_let_r, q_jn_r, q_b1_r, q_b2_r, q_b3_r, if_true, if_false, eq_self, q_gd_in, q_up_s, q_up_n, upd_s, upd_n, if_pos, if_neg]
  by_cases h6 : p < 6
  · obtain ⟨z', e, a1, a2, a3, a4⟩ := key x p (by omega) h28
    refine ⟨z', p, ?_, by omega, a1, a2, fun i hi => ?_, a4⟩
    · unfold f_X2_keep
      simp (disch := omega) only [q_jn_r, h28, iI_lit, iI_lt, if_pos]
      rw [h28] at e
      exact e
    · rw [Nat.sub_self, Nat.add_zero]; exact a3 i hi
  · obtain ⟨x2, e2, b1, b2, b3⟩ := forget_s x
    obtain ⟨z', e, a1, a2, a3, a4⟩ := key x2 5 (by omega) b2
    refine ⟨z', 5, ?_, by omega, fun c hc => (a1 c hc).trans (b1 c hc), a2, fun i hi => ?_, a4⟩
    · unfold f_X2_keep
      simp (disch := omega) only [q_jn_r, h28, iI_lit, iI_lt, if_neg, q_b1_s e2]
      exact e
    · rw [show p - 5 = 1 by omega]
      obtain ⟨c1, c2, c3⟩ := a3 i hi
      obtain ⟨d1, d2, d3⟩ := b3 i hi
      exact ⟨c1.trans d1, c2.trans d2, c3.trans d3⟩
theorem keeps11 (k : IS → Option IS) : ∀ (r fuel : Nat) (a : Int) (y : IS), 0 ≤ a → a + r = 510 → r < fuel → ∃ y' : IS, f_X7_keeps_L11 k fuel (iI a) y = k y' ∧ (∀ c, c ≠ 6 → y' c = y c) ∧ (∀ i : Nat, i < a → y' 6 i = y 6 i) ∧ (∀ i : Nat, a ≤ i → i < 510 → y' 6 i = y 6 (i + 102)) := by
  intro r
  induction r with
  | zero =>
    intro fuel a y h0 h1 h2
    obtain ⟨fuel, rfl⟩ : ∃ z, fuel = z + 1 := ⟨fuel - 1, by omega⟩
    refine ⟨y, ?_, fun _ _ => rfl, fun _ _ => rfl, fun i h h' => by omega⟩
    show f_X7_keeps_L11F k (f_X7_keeps_L11 k fuel) (iI a) y = _
    simp (disch := omega) only [f_X7_keeps_L11F, iI_lit, iI_neg, iI_lt, iI_le, iI_eq, iI_add, iI_sub, iI_mul, iI_cl, q_let_r, q_jn_r, q_b1_r, q_b2_r, q_b3_r, if_true, if_false, eq_self, q_gd_in, q_up_s, q_up_n, upd_s, upd_n, if_pos, if_neg]
  | succ r ih =>
    intro fuel a y h0 h1 h2
    obtain ⟨fuel, rfl⟩ : ∃ z, fuel = z + 1 := ⟨fuel - 1, by omega⟩
    obtain ⟨y', e, p1, p2, p3⟩ := ih fuel (a + 1) (q_up y 6 (upd (y 6) a.toNat (y 6 (a + 102).toNat))) (by omega) (by omega) (by omega)
    refine ⟨y', ?_, fun c hc => ?_, fun i hi => ?_, fun i hi hi2 => ?_⟩
    · show f_X7_keeps_L11F k (f_X7_keeps_L11 k fuel) (iI a) y = _
      simp (disch := omega) only [f_X7_keeps_L11F, iI_lit, iI_neg, iI_lt, iI_le, iI_eq, iI_add, iI_sub, iI_mul, iI_cl, q_let_r, q_jn_r, q_b1_r, q_b2_r, q_b3_r, if_true, if_false, eq_self, q_gd_in, q_up_s, q_up_n, upd_s, upd_n, if_pos, if_neg]
      exact e
    · rw [p1 c hc]; simp (disch := omega) only [iI_lit, iI_neg, iI_lt, iI_le, iI_eq, iI_add, iI_sub, iI_mul, iI_cl, q_let_r, q_jn_r, q_b1_r, q_b2_r, q_b3_r, if_true, if_false, eq_self, q_gd_in, q_up_s, q_up_n, upd_s, upd_n, if_pos, if_neg]
    · rw [p2 i (by omega)]; simp (disch := omega) only [iI_lit, iI_neg, iI_lt, iI_le, iI_eq, iI_add, iI_sub, iI_mul, iI_cl, q_let_r, q_jn_r, q_b1_r, q_b2_r, q_b3_r, if_true, if_false, eq_self, q_gd_in, q_up_s, q_up_n, upd_s, upd_n, if_pos, if_neg]
    · by_cases hia : a + 1 ≤ i
      · rw [p3 i hia hi2]; simp (disch := omega) only [iI_lit, iI_neg, iI_lt, iI_le, iI_eq, iI_add, iI_sub, iI_mul, iI_cl, q_let_r, q_jn_r, q_b1_r, q_b2_r, q_b3_r, if_true, if_false, eq_self, q_gd_in, q_up_s, q_up_n, upd_s, upd_n, if_pos, if_neg]
      · rw [p2 i (by omega)]
        have : i = a.toNat := by omega
        subst this
        simp (disch := omega) only [iI_lit, iI_neg, iI_lt, iI_le, iI_eq, iI_add, iI_sub, iI_mul, iI_cl, q_let_r, q_jn_r, q_b1_r, q_b2_r, q_b3_r, if_true, if_false, eq_self, q_gd_in, q_up_s, q_up_n, upd_s, upd_n, if_pos, if_neg]
        rw [show (a + 102).toNat = a.toNat + 102 by omega]
theorem keeps51 (k : IS → Option IS) {p : Nat} (hp : p ≤ 5) : ∀ (r fuel : Nat) (a : Int) (y : IS), y 7 0 = iI p → 0 ≤ a → a + r = 102 → r < fuel → ∃ y' : IS, f_X7_keeps_L51 k fuel (iI a) y = k y' ∧ (∀ c, c ≠ 6 → y' c = y c) ∧ (∀ i : Nat, i < 102 * p + a → y' 6 i = y 6 i) ∧ (∀ i : Nat, a ≤ i → i < 102 → y' 6 (102 * p + i) = y 5 i) := by
  intro r
  induction r with
  | zero =>
    intro fuel a y hy h0 h1 h2
    obtain ⟨fuel, rfl⟩ : ∃ z, fuel = z + 1 := ⟨fuel - 1, by omega⟩
    refine ⟨y, ?_, fun _ _ => rfl, fun _ _ => rfl, fun i h h' => by omega⟩
    show f_X7_keeps_L51F k (f_X7_keeps_L51 k fuel) (iI a) y = _
    simp (disch := omega) only [f_X7_keeps_L51F, iI_lit, iI_neg, iI_lt, iI_le, iI_eq, iI_add, iI_sub, iI_mul, iI_cl, q_let_r, q_jn_r, q_b1_r, q_b2_r, q_b3_r, if_true, if_false, eq_self, q_gd_in, q_up_s, q_up_n, upd_s, upd_n, if_pos, if_neg]
  | succ r ih =>
    intro fuel a y hy h0 h1 h2
    obtain ⟨fuel, rfl⟩ : ∃ z, fuel = z + 1 := ⟨fuel - 1, by omega⟩
    obtain ⟨y', e, p1, p2, p3⟩ := ih fuel (a + 1) (q_up y 6 (upd (y 6) (102 * p + a).toNat (y 5 a.toNat))) (by simp (disch := omega) only [iI_lit, iI_neg, iI_lt, iI_le, iI_eq, iI_add, iI_sub, iI_mul, iI_cl, q_let_r, q_jn_r, q_b1_r, q_b2_r, q_b3_r, if_true, if_false, eq_self, q_gd_in, q_up_s, q_up_n, upd_s, upd_n, if_pos, if_neg]; exact hy) (by omega) (by omega) (by omega)
    refine ⟨y', ?_, fun c hc => ?_, fun i hi => ?_, fun i hi hi2 => ?_⟩
    · show f_X7_keeps_L51F k (f_X7_keeps_L51 k fuel) (iI a) y = _
      simp (disch := omega) only [f_X7_keeps_L51F, hy, iI_lit, iI_neg, iI_lt, iI_le, iI_eq, iI_add, iI_sub, iI_mul, iI_cl, q_let_r, q_jn_r, q_b1_r, q_b2_r, q_b3_r, if_true, if_false, eq_self, q_gd_in, q_up_s, q_up_n, upd_s, upd_n, if_pos, if_neg]
      exact e
    · rw [p1 c hc]; simp (disch := omega) only [iI_lit, iI_neg, iI_lt, iI_le, iI_eq, iI_add, iI_sub, iI_mul, iI_cl, q_let_r, q_jn_r, q_b1_r, q_b2_r, q_b3_r, if_true, if_false, eq_self, q_gd_in, q_up_s, q_up_n, upd_s, upd_n, if_pos, if_neg]
    · rw [p2 i (by omega)]; simp (disch := omega) only [iI_lit, iI_neg, iI_lt, iI_le, iI_eq, iI_add, iI_sub, iI_mul, iI_cl, q_let_r, q_jn_r, q_b1_r, q_b2_r, q_b3_r, if_true, if_false, eq_self, q_gd_in, q_up_s, q_up_n, upd_s, upd_n, if_pos, if_neg]
    · by_cases hia : a + 1 ≤ i
      · rw [p3 i hia hi2]; simp (disch := omega) only [iI_lit, iI_neg, iI_lt, iI_le, iI_eq, iI_add, iI_sub, iI_mul, iI_cl, q_let_r, q_jn_r, q_b1_r, q_b2_r, q_b3_r, if_true, if_false, eq_self, q_gd_in, q_up_s, q_up_n, upd_s, upd_n, if_pos, if_neg]
      · rw [p2 _ (by omega)]
        have : i = a.toNat := by omega
        subst this
        rw [show 102 * p + a.toNat = (102 * p + a).toNat by omega]
        simp (disch := omega) only [iI_lit, iI_neg, iI_lt, iI_le, iI_eq, iI_add, iI_sub, iI_mul, iI_cl, q_let_r, q_jn_r, q_b1_r, q_b2_r, q_b3_r, if_true, if_false, eq_self, q_gd_in, q_up_s, q_up_n, upd_s, upd_n, if_pos, if_neg]
theorem keeps_s {y : IS} {p : Nat} (hp : p ≤ 6) (h7 : y 7 0 = iI p) : ∃ (y' : IS) (q : Nat), f_X7_keeps y = some y' ∧ q = min p 5 ∧ (∀ c, c ≠ 6 → c ≠ 7 → y' c = y c) ∧ y' 7 0 = iI ((q : Int) + 1) ∧ (∀ i, i < q → ∀ k, k < 102 → y' 6 (102 * i + k) = y 6 (102 * (i + (p - q)) + k)) ∧ ∀ k, k < 102 → y' 6 (102 * q + k) = y 5 k := by
  by_cases h6 : p = 6
  · obtain ⟨y1, e1, a1, a2, a3⟩ := keeps11 (fun x4 => q_let (q_up x4 7 (fun _ => ((x4 7 0) - (1 : Int32)))) fun x10 => f_X7_keeps_L51 (fun x14 => q_let (q_up x14 7 (fun _ => ((x14 7 0) + (1 : Int32)))) fun x20 => some x20) 1000 (0 : Int32) x10) 510 1000 0 y (by omega) (by omega) (by omega)
    have h71 : q_up y1 7 (fun _ => ((y1 7 0) - (1 : Int32))) 7 0 = iI (5 : Nat) := by
      simp (disch := omega) only [a1, h7, iI_lit, iI_neg, iI_lt, iI_le, iI_eq, iI_add, iI_sub, iI_mul, iI_cl, q_let_r, q_jn_r, q_b1_r, q_b2_r, q_b3_r, if_true, if_false, eq_self, q_gd_in, q_up_s, q_up_n, upd_s, upd_n, if_pos, if_neg]; rw [h6]; rfl
    obtain ⟨y2, e2, b1, b2, b3⟩ := keeps51 (fun x14 => q_let (q_up x14 7 (fun _ => ((x14 7 0) + (1 : Int32)))) fun x20 => some x20) (p := 5) (by omega) 102 1000 0 (q_up y1 7 (fun _ => ((y1 7 0) - (1 : Int32)))) h71 (by omega) (by omega) (by omega)
    refine ⟨q_up y2 7 (fun _ => y2 7 0 + 1), 5, ?_, by omega, fun c hc hc2 => ?_, ?_, fun i hi k hk => ?_, fun k hk => ?_⟩
    · unfold f_X7_keeps
      simp only [q_jn_r]
      rw [if_pos (by rw [h7, h6]; rfl)]
      exact e1.trans e2
    · simp (disch := omega) only [b1, a1, iI_lit, iI_neg, iI_lt, iI_le, iI_eq, iI_add, iI_sub, iI_mul, iI_cl, q_let_r, q_jn_r, q_b1_r, q_b2_r, q_b3_r, if_true, if_false, eq_self, q_gd_in, q_up_s, q_up_n, upd_s, upd_n, if_pos, if_neg]
    · rw [q_up_s, b1 7 (by omega), h71]; rfl
    · simp (disch := omega) only [b2, a3, iI_lit, iI_neg, iI_lt, iI_le, iI_eq, iI_add, iI_sub, iI_mul, iI_cl, q_let_r, q_jn_r, q_b1_r, q_b2_r, q_b3_r, if_true, if_false, eq_self, q_gd_in, q_up_s, q_up_n, upd_s, upd_n, if_pos, if_neg]
      rw [show p - 5 = 1 by omega, show 102 * i + k + 102 = 102 * (i + 1) + k by omega]
    · rw [q_up_n _ _ (by omega)]
      rw [b3 k (by omega) hk]
      simp (disch := omega) only [a1, iI_lit, iI_neg, iI_lt, iI_le, iI_eq, iI_add, iI_sub, iI_mul, iI_cl, q_let_r, q_jn_r, q_b1_r, q_b2_r, q_b3_r, if_true, if_false, eq_self, q_gd_in, q_up_s, q_up_n, upd_s, upd_n, if_pos, if_neg]
  · obtain ⟨y2, e2, b1, b2, b3⟩ := keeps51 (fun x14 => q_let (q_up x14 7 (fun _ => ((x14 7 0) + (1 : Int32)))) fun x20 => some x20) (p := p) (by omega) 102 1000 0 y h7 (by omega) (by omega) (by omega)
    refine ⟨q_up y2 7 (fun _ => y2 7 0 + 1), p, ?_, by omega, fun c hc hc2 => ?_, ?_, fun i hi k hk => ?_, fun k hk => ?_⟩
    · unfold f_X7_keeps
      simp only [q_jn_r]
      rw [if_neg (by rw [h7]; simp (disch := omega) only [iI_lit, iI_neg, iI_lt, iI_le, iI_eq, iI_add, iI_sub, iI_mul, iI_cl, q_let_r, q_jn_r, q_b1_r, q_b2_r, q_b3_r, if_true, if_false, eq_self, q_gd_in, q_up_s, q_up_n, upd_s, upd_n]; omega)]
      exact e2
    · simp (disch := omega) only [b1, iI_lit, iI_neg, iI_lt, iI_le, iI_eq, iI_add, iI_sub, iI_mul, iI_cl, q_let_r, q_jn_r, q_b1_r, q_b2_r, q_b3_r, if_true, if_false, eq_self, q_gd_in, q_up_s, q_up_n, upd_s, upd_n, if_pos, if_neg]
    · simp (disch := omega) only [b1, h7, iI_lit, iI_neg, iI_lt, iI_le, iI_eq, iI_add, iI_sub, iI_mul, iI_cl, q_let_r, q_jn_r, q_b1_r, q_b2_r, q_b3_r, if_true, if_false, eq_self, q_gd_in, q_up_s, q_up_n, upd_s, upd_n, if_pos, if_neg]
    · simp (disch := omega) only [b2, iI_lit, iI_neg, iI_lt, iI_le, iI_eq, iI_add, iI_sub, iI_mul, iI_cl, q_let_r, q_jn_r, q_b1_r, q_b2_r, q_b3_r, if_true, if_false, eq_self, q_gd_in, q_up_s, q_up_n, upd_s, upd_n, if_pos, if_neg]
      rw [Nat.sub_self, Nat.add_zero]
    · rw [q_up_n _ _ (by omega)]
      exact b3 k (by omega) hk
end
