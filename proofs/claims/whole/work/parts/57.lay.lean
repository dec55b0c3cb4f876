section
theorem clL (K : IS → Option IS) : ∀ (t fuel a : Nat) (y : IS), a + t = 102 → t < fuel → ∃ y' : IS, f_X7_clears_L7 K fuel (iI a) y = K y' ∧ (∀ c, c ≠ 10 → y' c = y c) ∧ (∀ i, a ≤ i → i < 102 → y' 10 i = 0) ∧ ∀ i, i < a → y' 10 i = y 10 i := by
  intro t
  induction t with
  | zero =>
    intro fuel a y ha hf
    obtain rfl : a = 102 := by omega
    obtain ⟨fuel, rfl⟩ : ∃ z, fuel = z + 1 := ⟨fuel - 1, by omega⟩
    refine ⟨y, ?_, fun _ _ => rfl, fun i h1 h2 => by omega, fun _ _ => rfl⟩
    show f_X7_clears_L7F K (f_X7_clears_L7 K fuel) (iI (102 : Nat)) y = _
    exact if_pos (by decide)
  | succ t ih =>
    intro fuel a y ha hf
    obtain ⟨fuel, rfl⟩ : ∃ z, fuel = z + 1 := ⟨fuel - 1, by omega⟩
    obtain ⟨y', e, b1, b2, b3⟩ := ih fuel (a + 1) (q_up y 10 (upd (y 10) a 0)) (by omega) (by omega)
    refine ⟨y', ?_, fun c hc => (b1 c hc).trans (q_up_n _ _ hc), fun i i1 i2 => ?_, fun i hi => ?_⟩
    · show f_X7_clears_L7F K (f_X7_clears_L7 K fuel) (iI a) y = _
      simp (disch := omega) only [f_X7_clears_L7F, Int.toNat_natCast, iI_lit, iI_neg, iI_lt, iI_le, iI_eq, iI_add, iI_sub, iI_mul, iI_cl, q_let_r, q_jn_r, q_b1_r, q_b2_r, q_b3_r, if_true, if_false, eq_self, q_gd_in, q_up_s, q_up_n, upd_s, upd_n, if_pos, if_neg]
      exact e
    · by_cases hi : i = a
      · subst hi; rw [b3 i (by omega), q_up_s]; exact upd_s _ _ _
      · exact b2 i (by omega) i2
    · rw [b3 i (by omega), q_up_s]; exact upd_n _ _ (by omega)
def w_KC : IS → Option IS := fun x4 =>
      q_let (q_up x4 10 (upd (x4 10) (96 : Int32).toNatClampNeg (3 : Int32))) fun x9 =>
      q_let (q_up x9 10 (upd (x9 10) (97 : Int32).toNatClampNeg (1 : Int32))) fun x10 =>
      q_let (q_up x10 10 (upd (x10 10) (98 : Int32).toNatClampNeg (4 : Int32))) fun x11 =>
      q_let (q_up x11 10 (upd (x11 10) (99 : Int32).toNatClampNeg (2 : Int32))) fun x12 =>
      q_let (q_up x12 10 (upd (x12 10) (100 : Int32).toNatClampNeg (1 : Int32))) fun x13 =>
      q_let (q_up x13 9 (fun _ => (4 : Int32))) fun x14 =>
      q_let (q_up x14 11 (upd (x14 11) (0 : Int32).toNatClampNeg (4 : Int32))) fun x15 =>
      q_let (q_up x15 11 (upd (x15 11) (1 : Int32).toNatClampNeg (2 : Int32))) fun x16 =>
      q_let (q_up x16 11 (upd (x16 11) (2 : Int32).toNatClampNeg (1 : Int32))) fun x17 =>
      q_let (q_up x17 11 (upd (x17 11) (3 : Int32).toNatClampNeg (1 : Int32))) fun x18 =>
      some x18
theorem clears_s (y : IS) : ∃ y' : IS, f_X7_clears y = some y' ∧ w_fy y' y ∧ y' 8 0 = 0 ∧ (∀ i, i < 96 → y' 10 i = 0) ∧ (∀ k, k < 5 → y' 10 (96 + k) = q_LW k) ∧ y' 10 101 = 0 ∧ y' 9 0 = iI 4 ∧ ∀ v, v < 4 → y' 11 v = q_DW v := by
  obtain ⟨z, e, b1, b2, -⟩ := clL w_KC 102 1000 0 (q_up y 8 (fun _ => (0 : Int32))) rfl (by omega)
  have e96 : (96 : Int32).toNatClampNeg = 96 := by decide
  have e97 : (97 : Int32).toNatClampNeg = 97 := by decide
  have e98 : (98 : Int32).toNatClampNeg = 98 := by decide
  have e99 : (99 : Int32).toNatClampNeg = 99 := by decide
  have e100 : (100 : Int32).toNatClampNeg = 100 := by decide
  have e0 : (0 : Int32).toNatClampNeg = 0 := by decide
  have e1 : (1 : Int32).toNatClampNeg = 1 := by decide
  have e2 : (2 : Int32).toNatClampNeg = 2 := by decide
  have e3 : (3 : Int32).toNatClampNeg = 3 := by decide
  have q : f_X7_clears y = w_KC z := by
    unfold f_X7_clears
    rw [q_let_r]
    exact e
  unfold w_KC at q
  simp (disch := decide) only [q_let_r, e96, e97, e98, e99, e100, e0, e1, e2, e3, q_up_s, q_up_n] at q
  refine ⟨_, q, fun c hc => ?_, ?_, fun i hi => ?_, fun k hk => ?_, ?_, ?_, fun v hv => ?_⟩
  · simp (disch := omega) only [q_up_s, q_up_n]
    rw [b1 c (by omega), q_up_n _ _ (by omega)]
  · simp (disch := omega) only [q_up_s, q_up_n]
    rw [b1 8 (by omega), q_up_s]
  · simp (disch := omega) only [q_up_s, q_up_n, upd_n]
    exact b2 i (by omega) (by omega)
  · simp (disch := omega) only [q_up_s, q_up_n]
    match k, hk with
    | 0, _ => simp (disch := omega) only [Nat.add_zero, upd_s, upd_n]; rfl
    | 1, _ => simp (disch := omega) only [upd_s, upd_n]; rfl
    | 2, _ => simp (disch := omega) only [upd_s, upd_n]; rfl
    | 3, _ => simp (disch := omega) only [upd_s, upd_n]; rfl
    | 4, _ => simp (disch := omega) only [upd_s, upd_n]; rfl
  · simp (disch := omega) only [q_up_s, q_up_n, upd_n]
    exact b2 101 (by omega) (by omega)
  · simp (disch := omega) only [q_up_s, q_up_n]; rfl
  · simp (disch := omega) only [q_up_s, q_up_n]
    match v, hv with
    | 0, _ => simp (disch := omega) only [upd_s, upd_n]; rfl
    | 1, _ => simp (disch := omega) only [upd_s, upd_n]; rfl
    | 2, _ => simp (disch := omega) only [upd_s, upd_n]; rfl
    | 3, _ => simp (disch := omega) only [upd_s, upd_n]; rfl
theorem w_sum_c {f g : Nat → Int32} : ∀ k, (∀ v, v < k → f v = g v) → w_sum f k = w_sum g k := by
  intro k
  induction k with
  | zero => intro _; rfl
  | succ k ih =>
    intro h
    show w_sum f k + (f k).toInt = w_sum g k + (g k).toInt
    rw [ih (fun v hv => h v (by omega)), h k (by omega)]
theorem startAnew_s (x : IS) : ∃ x' : IS, f_X5_startAnew x = some x' ∧ w_fx x' x ∧ x' 6 0 = 0 ∧ x' 7 0 = 0 ∧ (∀ k, k < 5 → x' 4 k = q_LW k) ∧ (∀ v, v < 8 → x' 5 v = q_DW v) ∧ x' 3 = x 3 := by
  have e0 : (0 : Int32).toNatClampNeg = 0 := by decide
  have e5 : (5 : Int32).toNatClampNeg = 5 := by decide
  have e8 : (8 : Int32).toNatClampNeg = 8 := by decide
  unfold f_X5_startAnew
  simp (disch := decide) only [q_let_r, e0, e5, e8, q_up_s, q_up_n]
  refine ⟨_, rfl, fun c hc => ?_, ?_, ?_, fun k hk => ?_, fun v hv => ?_, ?_⟩
  · simp (disch := omega) only [q_up_n]
  · simp (disch := omega) only [q_up_n, q_up_s]
  · simp (disch := omega) only [q_up_n, q_up_s]
  · simp (disch := omega) only [q_up_n, q_up_s, va_cpy_in, Nat.zero_add, Nat.sub_zero]
  · simp (disch := omega) only [q_up_n, q_up_s, va_cpy_in, Nat.zero_add, Nat.sub_zero]
  · simp (disch := omega) only [q_up_n, q_up_s]
theorem begin_s (x y : IS) : ∃ x' y' : IS, f_X5_startAnew x = some x' ∧ f_X7_clears y = some y' ∧ w_T 0 x' y' ∧ w_fx x' x ∧ w_fy y' y := by
  obtain ⟨x', a1, a2, a3, a4, a5, a6, -⟩ := startAnew_s x
  obtain ⟨y', b1, b2, b3, b4, b5, b6, b7, b8⟩ := clears_s y
  have lw : ∀ k, k < 5 → w_lo k ≤ (q_LW k).toInt ∧ (q_LW k).toInt ≤ w_hi k := by decide +kernel
  have dw : ∀ v, v < 8 → 0 ≤ (q_DW v).toInt ∧ (q_DW v).toInt ≤ 16 := by decide +kernel
  have dz : ∀ v, v < 8 → ¬ v < 4 → q_DW v = 0 := by decide +kernel
  have ds : w_sum q_DW 8 = 8 := by decide +kernel
  refine ⟨x', y', a1, b1, ⟨⟨by omega, a3, b3, fun i hi => by omega, fun i i1 i2 => b4 i i2⟩, fun k hk => ?_, ?_, 4, by omega, b7, fun v hv => ?_, fun v hv => ?_, ?_, ?_⟩, a2, b2⟩
  · rw [a5 k hk, b5 k hk]; exact ⟨rfl, lw k hk⟩
  · unfold w_Tm; rw [a4, b6]; decide
  · rw [a6 v hv]
    by_cases h4 : v < 4
    · rw [if_pos h4, b8 v h4]
    · rw [if_neg h4]; exact dz v hv h4
  · rw [a6 v hv]; exact dw v hv
  · rw [w_sum_c 8 a6, ds]; decide
  · rw [w_sum_c 8 a6, ds]; decide
theorem read_s {x y : IS} (h : q_It x y) : ∃ (r : Int) (x' y' : IS), f_X4_readInto x = some (iI r, x') ∧ f_X7_reads y = some (iI r, y') ∧ w_fx x' x ∧ w_fy y' y ∧ -4 ≤ r ∧ r ≤ 200 ∧ (r = -4 → ∃ c', w_T c' x' y') ∧ q_It x' y' := by
  obtain ⟨L, len, hx, hy⟩ := w_l_of h
  obtain ⟨x1, y1, a1, a2, a3, a4, a5⟩ := begin_s x y
  have hx1 : w_lx L len x1 := w_lx_k hx (a4 0 (by omega)) (a4 2 (by omega))
  have hy1 : w_ly L len y1 := w_ly_k hy (a5 0 (by omega)) (a5 1 (by omega))
  obtain ⟨r, x', y', b1, b2, b3, b4, b5, b6, b7⟩ := text_l 201 1000 1000 0 0 0 x1 y1 (by omega) (by omega) (by omega) (by omega) (by omega) hx1 hy1 a3
  refine ⟨r, x', y', ?_, ?_, fun c hc => (b3 c hc).trans (a4 c hc), fun c hc => (b4 c hc).trans (a5 c hc), b5, b6, b7, w_It_of (w_lx_k hx1 (b3 0 (by omega)) (b3 2 (by omega))) (w_ly_k hy1 (b4 0 (by omega)) (b4 1 (by omega)))⟩
  · unfold f_X4_readInto; exact (q_b1_s a1).trans b1
  · unfold f_X7_reads; exact (q_b1_s a2).trans b2
theorem qt_fault : qs_fault q_I := by
  intro x j y hI
  obtain ⟨r, x', y', a1, a2, a3, a4, -, -, -, a5⟩ := read_s hI.1
  refine ⟨iI r, x', y', q_b2_s a1, q_b2_s a2, q_I_text hI a5 (fun c hc => a3 c (by omega)) (fun c h1 h2 => a4 c (by omega))⟩
end
