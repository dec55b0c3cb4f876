section
theorem w_bs_mono (al : Nat → Bool) {a : Nat} : ∀ b, a ≤ b → w_bs al a ≤ w_bs al b := by
  intro b
  induction b with
  | zero => intro h; rw [Nat.le_zero.mp h]; exact Nat.le_refl _
  | succ b ih =>
    intro h
    by_cases e : a = b + 1
    · rw [e]; exact Nat.le_refl _
    · have := ih (by omega)
      show w_bs al a ≤ w_bs al b + _
      omega
theorem w_bs_le (al : Nat → Bool) : ∀ n, w_bs al n ≤ n
  | 0 => Nat.le_refl _
  | n + 1 => by
    have := w_bs_le al n
    show w_bs al n + _ ≤ _
    split <;> omega
theorem w_bs_run {al : Nat → Bool} {s : Nat} (hs : s = 0 ∨ al (s - 1) = false) : ∀ e, s ≤ e → (∀ k, s ≤ k → k ≤ e → al k = true) → w_bs al (e + 1) = w_bs al s + 1 := by
  intro e
  induction e with
  | zero =>
    intro h1 h2
    obtain rfl : s = 0 := by omega
    show w_bs al 0 + _ = _
    rw [if_pos ⟨h2 0 (by omega) (by omega), Or.inl rfl⟩]
  | succ e ih =>
    intro h1 h2
    by_cases he : s = e + 1
    · subst he
      show w_bs al (e + 1) + _ = _
      rw [if_pos ⟨h2 (e + 1) (by omega) (by omega), hs⟩]
    · show w_bs al (e + 1) + _ = _
      have h3 : al e = true := h2 e (by omega) (by omega)
      rw [if_neg (fun h => by rcases h.2 with h | h; omega; rw [Nat.add_sub_cancel, h3] at h; cases h), ih (by omega) (fun k a b => h2 k a (by omega))]
theorem w_bs_skip {al : Nat → Bool} {j : Nat} (hj : al j = false) : ∀ m, j ≤ m → al m = true → w_bs al (j + 1) < w_bs al (m + 1) := by
  intro m
  induction m with
  | zero =>
    intro h1 h2
    obtain rfl : j = 0 := by omega
    rw [hj] at h2; cases h2
  | succ m ih =>
    intro h1 h2
    have hne : j ≠ m + 1 := fun h => by rw [h, h2] at hj; cases hj
    by_cases hm : al m = true
    · have := ih (by omega) hm
      have := w_bs_mono al (a := m + 1) (m + 1 + 1) (by omega)
      omega
    · have h3 : w_bs al (m + 1 + 1) = w_bs al (m + 1) + 1 := by
        show w_bs al (m + 1) + _ = _
        rw [if_pos ⟨h2, Or.inr (by rw [Nat.add_sub_cancel]; exact Bool.eq_false_iff.mpr hm)⟩]
      have := w_bs_mono al (a := j + 1) (m + 1) (by omega)
      omega
theorem w_bs_pos {al : Nat → Bool} : ∀ m, al m = true → 0 < w_bs al (m + 1) := by
  intro m
  induction m with
  | zero =>
    intro h
    show 0 < w_bs al 0 + _
    rw [if_pos ⟨h, Or.inl rfl⟩]; exact Nat.succ_pos _
  | succ m ih =>
    intro h
    by_cases hm : al m = true
    · have := ih hm
      have := w_bs_mono al (a := m + 1) (m + 1 + 1) (by omega)
      omega
    · show 0 < w_bs al (m + 1) + _
      rw [if_pos ⟨h, Or.inr (by rw [Nat.add_sub_cancel]; exact Bool.eq_false_iff.mpr hm)⟩]; exact Nat.succ_pos _
theorem w_bs_no {al : Nat → Bool} {i : Nat} (h : al i = false ∨ (0 < i ∧ al (i - 1) = true)) : w_bs al (i + 1) = w_bs al i := by
  show w_bs al i + _ = _
  rw [if_neg (fun h2 => by
    rcases h with h | ⟨h, h'⟩
    · rw [h] at h2; cases h2.1
    · rcases h2.2 with h3 | h3
      · omega
      · rw [h'] at h3; cases h3)]
  rfl
theorem w_bs_yes {al : Nat → Bool} {i : Nat} (h : al i = true) (h2 : i = 0 ∨ al (i - 1) = false) : w_bs al (i + 1) = w_bs al i + 1 := by
  show w_bs al i + _ = _
  rw [if_pos ⟨h, h2⟩]
theorem w_B_end {al : Nat → Bool} {n b s e : Nat} (h : w_B al n b s e) : w_bs al (e + 1) = b + 1 := by
  obtain ⟨h1, h2, h3, h4, h5, h6⟩ := h
  rw [w_bs_run h4 e h1 h3, h6]
/-- the b-th bunch is one -/
theorem w_B_uniq {al : Nat → Bool} {n b s e s' e' : Nat} (h : w_B al n b s e) (h' : w_B al n b s' e') : s = s' ∧ e = e' := by
  have key : ∀ {s e s' e' : Nat}, w_B al n b s e → w_B al n b s' e' → ¬ s < s' := by
    intro s e s' e' h h' hlt
    have a1 := w_B_end h
    have a2 := h'.2.2.2.2.2
    -- no start of s' before it is counted: the count at s' is b, but b + 1 at e + 1
    by_cases he : e + 1 ≤ s'
    · have := w_bs_mono al (a := e + 1) s' he
      omega
    · have h3 := h.2.2.1 (s' - 1) (by omega) (by omega)
      rcases h'.2.2.2.1 with h4 | h4
      · omega
      · rw [h3] at h4; cases h4
  have hs : s = s' := by
    rcases Nat.lt_trichotomy s s' with q | q | q
    · exact absurd q (key h h')
    · exact q
    · exact absurd q (key h' h)
  subst hs
  refine ⟨rfl, ?_⟩
  have key2 : ∀ {e e' : Nat}, w_B al n b s e → w_B al n b s e' → ¬ e < e' := by
    intro e e' h h' hlt
    rcases h.2.2.2.2.1 with h5 | h5
    · have := h'.2.1; omega
    · have h6 := h'.2.2.1 (e + 1) (by have := h.1; omega) (by omega)
      rw [h5] at h6; cases h6
  rcases Nat.lt_trichotomy e e' with q | q | q
  · exact absurd q (key2 h h')
  · exact q
  · exact absurd q (key2 h' h)
theorem w_P_uniq {f : Nat → Int32} {s e q q' : Nat} (h : w_P f s e q) (h' : w_P f s e q') : q = q' := by
  have key : ∀ {q q' : Nat}, w_P f s e q → w_P f s e q' → ¬ q < q' := by
    intro q q' h h' hlt
    have a1 := h'.2.2.2 q h.1 hlt
    have a2 := h.2.2.1 q' h'.1 h'.2.1
    exact absurd a1 (Int32.not_lt.mpr a2)
  rcases Nat.lt_trichotomy q q' with z | z | z
  · exact absurd z (key h h')
  · exact z
  · exact absurd z (key h' h)
/-! addToBunch -/
theorem addOn {x : IS} {i B q : Nat} (hi1 : 1 ≤ i) (hi : i < 48) (hB1 : 1 ≤ B) (hB : B ≤ 48) (h22 : x 22 0 = iI B) (h19 : x 19 (B - 1) = iI ((i : Int) - 1)) (h20 : x 20 (B - 1) = iI q) (hq : q < 48) :
    ∃ x', f_X0_addToBunch x (iI i) = some x' ∧ (∀ c, c ≠ 17 → c ≠ 19 → c ≠ 20 → x' c = x c) ∧ x' 19 = upd (x 19) (B - 1) (iI i) ∧ x' 17 = upd (x 17) i (iI ((B : Int) - 1)) ∧ x' 20 = (if x 8 i ≤ x 8 q then x 20 else upd (x 20) (B - 1) (iI i)) := by
  have t1 : ((B : Int) - 1).toNat = B - 1 := by omega
  have e1 : f_X0_addToBunch x (iI i) = (if x 8 i ≤ x 8 q then some (q_up (q_up x 19 (upd (x 19) (B - 1) (iI i))) 17 (upd (x 17) i (iI ((B : Int) - 1)))) else some (q_up (q_up (q_up x 19 (upd (x 19) (B - 1) (iI i))) 17 (upd (x 17) i (iI ((B : Int) - 1)))) 20 (upd (x 20) (B - 1) (iI i)))) := by
    simp (disch := omega) only [f_X0_addToBunch, h22, t1, h19, h20, Int.toNat_natCast, iI_lit, iI_neg, iI_lt, iI_le, iI_eq, iI_add, iI_sub, iI_mul, iI_cl, q_let_r, q_jn_r, q_b1_r, q_b2_r, q_b3_r, if_true, if_false, eq_self, q_gd_in, q_up_s, q_up_n, upd_s, upd_n, if_pos, if_neg]
  by_cases hp : x 8 i ≤ x 8 q
  · rw [e1, if_pos hp, if_pos hp]
    exact ⟨_, rfl, fun c h1 h2 h3 => by simp (disch := omega) only [q_up_n], by simp (disch := omega) only [q_up_s, q_up_n], by simp (disch := omega) only [q_up_s, q_up_n], by simp (disch := omega) only [q_up_s, q_up_n]⟩
  · rw [e1, if_neg hp, if_neg hp]
    exact ⟨_, rfl, fun c h1 h2 h3 => by simp (disch := omega) only [q_up_n], by simp (disch := omega) only [q_up_s, q_up_n], by simp (disch := omega) only [q_up_s, q_up_n], by simp (disch := omega) only [q_up_s, q_up_n]⟩
theorem addNew {x : IS} {i B : Nat} (hi : i < 48) (hB : B < 48) (h22 : x 22 0 = iI B) (h19 : B = 0 ∨ ¬ x 19 (B - 1) = iI ((i : Int) - 1)) :
    ∃ x', f_X0_addToBunch x (iI i) = some x' ∧ (∀ c, c ≠ 17 → c ≠ 18 → c ≠ 19 → c ≠ 20 → c ≠ 22 → x' c = x c) ∧ x' 18 = upd (x 18) B (iI i) ∧ x' 19 = upd (x 19) B (iI i) ∧ x' 20 = upd (x 20) B (iI i) ∧ x' 17 = upd (x 17) i (iI B) ∧ x' 22 0 = iI ((B : Int) + 1) := by
  have t1 : ((B : Int) - 1).toNat = B - 1 := by omega
  have hle : x 8 i ≤ x 8 i := Int32.le_refl _
  have e1 : f_X0_addToBunch x (iI i) = some (q_up (q_up (q_up (q_up (q_up x 18 (upd (x 18) B (iI i))) 20 (upd (x 20) B (iI i))) 22 (fun _ => iI ((B : Int) + 1))) 19 (upd (x 19) B (iI i))) 17 (upd (x 17) i (iI B))) := by
    rcases h19 with h0 | h19
    · subst h0
      simp (disch := omega) only [f_X0_addToBunch, h22, Int.toNat_natCast, hle, iI_lit, iI_neg, iI_lt, iI_le, iI_eq, iI_add, iI_sub, iI_mul, iI_cl, q_let_r, q_jn_r, q_b1_r, q_b2_r, q_b3_r, if_true, if_false, eq_self, q_gd_in, q_up_s, q_up_n, upd_s, upd_n, if_pos, if_neg]
    · by_cases h0 : B = 0
      · subst h0
        simp (disch := omega) only [f_X0_addToBunch, h22, Int.toNat_natCast, hle, iI_lit, iI_neg, iI_lt, iI_le, iI_eq, iI_add, iI_sub, iI_mul, iI_cl, q_let_r, q_jn_r, q_b1_r, q_b2_r, q_b3_r, if_true, if_false, eq_self, q_gd_in, q_up_s, q_up_n, upd_s, upd_n, if_pos, if_neg]
      · simp (disch := omega) only [f_X0_addToBunch, h22, t1, h19, Int.toNat_natCast, hle, iI_lit, iI_neg, iI_lt, iI_le, iI_eq, iI_add, iI_sub, iI_mul, iI_cl, q_let_r, q_jn_r, q_b1_r, q_b2_r, q_b3_r, if_true, if_false, eq_self, q_gd_in, q_up_s, q_up_n, upd_s, upd_n, if_pos, if_neg]
  rw [e1]
  exact ⟨_, rfl, fun c h1 h2 h3 h4 h5 => by simp (disch := omega) only [q_up_n], by simp (disch := omega) only [q_up_s, q_up_n], by simp (disch := omega) only [q_up_s, q_up_n], by simp (disch := omega) only [q_up_s, q_up_n], by simp (disch := omega) only [q_up_s, q_up_n], by simp (disch := omega) only [q_up_s, q_up_n]⟩
end
