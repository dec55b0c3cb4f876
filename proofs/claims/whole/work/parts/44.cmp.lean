section
theorem i1_ne : ¬ (iI 1 : Int32) = 0 := by decide
/-- the class's comparison of two products -/
theorem noMoreX {p q r s : Nat} (hp : p < 9007199254740992) (hq : q < 1048576) (hr : r < 9007199254740992) (hs : s < 1048576) : f_X6_productIsNoMore (lN p) (lN q) (lN r) (lN s) = some (if p * q ≤ r * s then iI 1 else iI 0) := by
  have b1 : ∀ {a b : Nat}, a < 9007199254740992 → b < 1048576 → a % 67108864 * b < 70368744177664 := fun {a b} ha hb => by
    have h1 : a % 67108864 < 67108864 := Nat.mod_lt _ (by decide)
    exact Nat.lt_of_lt_of_le (Nat.mul_lt_mul'' h1 hb) (by decide)
  have b2 : ∀ {a b : Nat}, a < 9007199254740992 → b < 1048576 → a / 67108864 * b < 140737488355328 := fun {a b} ha hb => by
    have h1 : a / 67108864 < 134217728 := by omega
    exact Nat.lt_of_lt_of_le (Nat.mul_lt_mul'' h1 hb) (by decide)
  have e1 : ∀ a b : Nat, a * b = (a / 67108864 * b + a % 67108864 * b / 67108864) * 67108864 + a % 67108864 * b % 67108864 := fun a b => by
    have h1 := Nat.div_add_mod a 67108864
    have h2 := Nat.div_add_mod (a % 67108864 * b) 67108864
    have h3 : a * b = 67108864 * (a / 67108864 * b) + a % 67108864 * b := by
      conv => lhs; rw [← h1]
      rw [Nat.add_mul, Nat.mul_assoc]
    omega
  have hp1 := b1 hp hq
  have hp2 := b2 hp hq
  have hr1 := b1 hr hs
  have hr2 := b2 hr hs
  have ep := e1 p q
  have er := e1 r s
  unfold f_X6_productIsNoMore
  simp only [q_let_r]
  rw [lN_mask, lN_and (by omega), lN_mul, lN_and (show r < _ by omega), lN_mul, lN_shr (show p < _ by omega), lN_mul, lN_shr (show p % 67108864 * q < _ by omega), lN_add, lN_shr (show r < _ by omega), lN_mul, lN_shr (show r % 67108864 * s < _ by omega), lN_add, lN_and (by omega), lN_and (by omega)]
  generalize p % 67108864 * q = pl at *
  generalize p / 67108864 * q = ph at *
  generalize r % 67108864 * s = rl at *
  generalize r / 67108864 * s = rh at *
  by_cases h1 : lg_cmp (lN (ph + pl / 67108864)) (lN (rh + rl / 67108864)) = 0
  · rw [if_pos h1]
    rw [lg_cmp_eq, lN_eq' (by omega) (by omega)] at h1
    by_cases h2 : 0 < lg_cmp (lN (pl % 67108864)) (lN (rl % 67108864))
    · rw [if_pos h2]
      rw [lg_cmp_gt, lN_lt' (by omega) (by omega)] at h2
      rw [if_neg (by omega)]; rfl
    · rw [if_neg h2]
      rw [lg_cmp_gt, lN_lt' (by omega) (by omega)] at h2
      rw [if_pos (by omega)]; rfl
  · rw [if_neg h1]
    rw [lg_cmp_eq, lN_eq' (by omega) (by omega)] at h1
    by_cases h2 : 0 ≤ lg_cmp (lN (ph + pl / 67108864)) (lN (rh + rl / 67108864))
    · rw [if_pos h2]
      rw [lg_cmp_ge, lN_le' (by omega) (by omega)] at h2
      rw [if_neg (by omega)]; rfl
    · rw [if_neg h2]
      rw [lg_cmp_ge, lN_le' (by omega) (by omega)] at h2
      rw [if_pos (by omega)]; rfl
/-! the reference's comparison of two fractions -/
theorem div_lt_mul {p q r s : Nat} (hq : 0 < q) (hs : 0 < s) (h : p / q < r / s) : p * s < r * q := by
  have h1 : p < (p / q + 1) * q := by
    have := Nat.div_add_mod p q
    have := Nat.mod_lt p hq
    rw [Nat.add_mul, Nat.mul_comm (p / q) q]
    omega
  have h2 : (p / q + 1) * q ≤ r / s * q := Nat.mul_le_mul_right q h
  have h3 : r / s * s ≤ r := Nat.div_mul_le_self r s
  have h4 : p * s < r / s * q * s := Nat.mul_lt_mul_of_pos_right (Nat.lt_of_lt_of_le h1 h2) hs
  have h5 : r / s * q * s = r / s * s * q := by rw [Nat.mul_assoc, Nat.mul_comm q s, Nat.mul_assoc]
  have h6 : r / s * s * q ≤ r * q := Nat.mul_le_mul_right q h3
  omega
theorem mod_le_iff {p q r s : Nat} (h : p / q = r / s) : (p * s ≤ r * q) = (p % q * s ≤ r % s * q) := by
  have h1 := Nat.div_add_mod p q
  have h2 := Nat.div_add_mod r s
  have e1 : p * s = q * s * (p / q) + p % q * s := by
    conv => lhs; rw [← h1]
    rw [Nat.add_mul, Nat.mul_assoc, Nat.mul_comm (p / q) s, Nat.mul_assoc]
  have e2 : r * q = q * s * (p / q) + r % s * q := by
    conv => lhs; rw [← h2]
    rw [Nat.add_mul, ← h, Nat.mul_comm (s * (p / q)) q, Nat.mul_assoc]
  apply propext
  omega
/-- the answer, by the fractions p by q and r by s, straight (1) or turned round (0) -/
def fr_ans (st : Bool) (p q r s : Nat) : Bool := if st then decide (p * s ≤ r * q) else decide (r * q ≤ p * s)
def fr_k : Int64 → Int64 → Int32 → Option Int32 := fun e6 e7 e8 =>
      q_jn (
        q_jn (fun (t28 : Int32) =>
          if t28 = e8 then
            some (0 : Int32)
          else
            some (1 : Int32)) fun J146 =>
        if (lg_cmp e6 (0 : Int64)) = 0 then
          J146 (1 : Int32)
        else
          J146 (0 : Int32)) fun J134 =>
      if (lg_cmp e6 (0 : Int64)) = 0 then
        if (lg_cmp e7 (0 : Int64)) = 0 then
          some (1 : Int32)
        else
          J134
      else
        J134
theorem fr_end {st : Bool} {p q r s : Nat} (h : q = 0 ∨ s = 0) (hp : 0 < p ∨ 0 < q) (hr : 0 < r) (hq : q < 9223372036854775808) (hs : s < 9223372036854775808) : fr_k (lN q) (lN s) (if st then iI 1 else iI 0) = some (if fr_ans st p q r s then iI 1 else iI 0) := by
  unfold fr_k fr_ans
  simp only [q_jn_r, lN_cmp0 hq, lN_cmp0 hs]
  by_cases hq0 : q = 0
  · subst hq0
    by_cases hs0 : s = 0
    · subst hs0
      cases st <;> simp <;> rfl
    · have : 0 < p * s := Nat.mul_pos (hp.resolve_right (by omega)) (Nat.pos_of_ne_zero hs0)
      rw [if_pos rfl, if_neg hs0, if_pos rfl]
      cases st
      · rw [if_neg (show ¬ (1 : Int32) = (if false = true then iI 1 else iI 0) by decide), if_neg (show ¬ (false = true) by decide), decide_eq_true (by omega)]; rfl
      · rw [if_pos (show (1 : Int32) = (if true = true then iI 1 else iI 0) by decide), if_pos rfl, decide_eq_false (by omega)]; rfl
  · obtain rfl : s = 0 := h.resolve_left hq0
    have : 0 < r * q := Nat.mul_pos hr (Nat.pos_of_ne_zero hq0)
    rw [if_neg hq0, if_neg hq0]
    cases st
    · rw [if_pos (show (0 : Int32) = (if false = true then iI 1 else iI 0) by decide), if_neg (show ¬ (false = true) by decide), decide_eq_false (by omega)]; rfl
    · rw [if_neg (show ¬ (0 : Int32) = (if true = true then iI 1 else iI 0) by decide), if_pos rfl, decide_eq_true (by omega)]; rfl
theorem frL : ∀ (t fuel p q r s : Nat) (st : Bool), q < 2 ^ t → 2 * t + 1 ≤ fuel → (0 < p ∨ 0 < q) → 0 < r → p < 9223372036854775808 → q < 9223372036854775808 → r < 9223372036854775808 → s < 9223372036854775808 → f_X7_isNoMore_L17 fr_k fuel (lN p) (lN q) (lN r) (lN s) (if st then iI 1 else iI 0) = some (if fr_ans st p q r s then iI 1 else iI 0) := by
  have stop : ∀ (fuel p q r s : Nat) (st : Bool), (q = 0 ∨ s = 0) → (0 < p ∨ 0 < q) → 0 < r → q < 9223372036854775808 → s < 9223372036854775808 → f_X7_isNoMore_L17 fr_k (fuel + 1) (lN p) (lN q) (lN r) (lN s) (if st then iI 1 else iI 0) = some (if fr_ans st p q r s then iI 1 else iI 0) := by
    intro fuel p q r s st h hp hr hq hs
    show f_X7_isNoMore_L17F fr_k (f_X7_isNoMore_L17 fr_k fuel) _ _ _ _ _ = _
    unfold f_X7_isNoMore_L17F
    simp only [lN_cmp0 hq, lN_cmp0 hs]
    by_cases hq0 : q = 0
    · rw [if_pos hq0]; exact fr_end h hp hr hq hs
    · rw [if_neg hq0, if_pos (h.resolve_left hq0)]; exact fr_end h hp hr hq hs
  have step : ∀ (fuel p q r s : Nat) (st : Bool), 0 < q → 0 < s → p < 9223372036854775808 → q < 9223372036854775808 → r < 9223372036854775808 → s < 9223372036854775808 → f_X7_isNoMore_L17 fr_k (fuel + 1) (lN p) (lN q) (lN r) (lN s) (if st then iI 1 else iI 0) = (if p / q = r / s then f_X7_isNoMore_L17 fr_k fuel (lN q) (lN (p % q)) (lN s) (lN (r % s)) (if !st then iI 1 else iI 0) else some (if fr_ans st p q r s then iI 1 else iI 0)) := by
    intro fuel p q r s st hq0 hs0 hp hq hr hs
    have hd1 : p / q < 9223372036854775808 := Nat.lt_of_le_of_lt (Nat.div_le_self _ _) hp
    have hd2 : r / s < 9223372036854775808 := Nat.lt_of_le_of_lt (Nat.div_le_self _ _) hr
    have gq : ¬ lN q = 0 := by rw [lN_0, lN_eq' hq (by omega)]; omega
    have gs : ¬ lN s = 0 := by rw [lN_0, lN_eq' hs (by omega)]; omega
    show f_X7_isNoMore_L17F fr_k (f_X7_isNoMore_L17 fr_k fuel) _ _ _ _ _ = _
    unfold f_X7_isNoMore_L17F
    simp only [lN_cmp0 hq, lN_cmp0 hs]
    rw [if_neg (by omega), if_neg (by omega), q_gd_t gq, q_gd_t gs, lN_rem hp hq, lN_rem hr hs, lN_div hp hq, lN_div hr hs]
    by_cases he : p / q = r / s
    · rw [if_pos (by rw [lg_cmp_eq, he]), if_pos he]
      simp only [q_gd_t gq, q_gd_t gs, q_let_r, q_jn_r]
      cases st
      · rfl
      · rfl
    · rw [if_neg (by rw [lg_cmp_eq, lN_eq' hd1 hd2]; exact he), if_neg he]
      simp only [q_gd_t gq, q_gd_t gs, q_jn_r]
      by_cases hlt : p / q < r / s
      · have h1 := div_lt_mul hq0 hs0 hlt
        rw [if_neg (by rw [lg_cmp_ge, lN_le' hd2 hd1]; omega)]
        unfold fr_ans
        cases st
        · rw [if_neg (show ¬ (1 : Int32) = (if false = true then iI 1 else iI 0) by decide), if_neg (show ¬ (false = true) by decide), decide_eq_false (by omega)]; rfl
        · rw [if_pos (show (1 : Int32) = (if true = true then iI 1 else iI 0) by decide), if_pos rfl, decide_eq_true (by omega)]; rfl
      · have h1 := div_lt_mul hs0 hq0 (show r / s < p / q by omega)
        rw [if_pos (by rw [lg_cmp_ge, lN_le' hd2 hd1]; omega)]
        unfold fr_ans
        cases st
        · rw [if_pos (show (0 : Int32) = (if false = true then iI 1 else iI 0) by decide), if_neg (show ¬ (false = true) by decide), decide_eq_true (by omega)]; rfl
        · rw [if_neg (show ¬ (0 : Int32) = (if true = true then iI 1 else iI 0) by decide), if_pos rfl, decide_eq_false (by omega)]; rfl
  have ansflip : ∀ (p q r s : Nat) (st : Bool), p / q = r / s → fr_ans (!st) q (p % q) s (r % s) = fr_ans st p q r s := by
    intro p q r s st he
    unfold fr_ans
    cases st
    · show decide (q * (r % s) ≤ s * (p % q)) = decide (r * q ≤ p * s)
      have := mod_le_iff he.symm
      rw [decide_eq_decide, Nat.mul_comm q, Nat.mul_comm s]
      exact iff_of_eq this.symm
    · show decide (s * (p % q) ≤ q * (r % s)) = decide (p * s ≤ r * q)
      have := mod_le_iff he
      rw [decide_eq_decide, Nat.mul_comm q, Nat.mul_comm s]
      exact iff_of_eq this.symm
  intro t
  induction t with
  | zero =>
    intro fuel p q r s st h1 h2 hp0 hr0 hp hq hr hs
    obtain ⟨fuel, rfl⟩ : ∃ z, fuel = z + 1 := ⟨fuel - 1, by omega⟩
    exact stop fuel p q r s st (Or.inl (by omega)) hp0 hr0 hq hs
  | succ t ih =>
    intro fuel p q r s st h1 h2 hp0 hr0 hp hq hr hs
    obtain ⟨fuel, rfl⟩ : ∃ z, fuel = z + 1 + 1 := ⟨fuel - 2, by omega⟩
    by_cases h0 : q = 0 ∨ s = 0
    · exact stop _ p q r s st h0 hp0 hr0 hq hs
    have hq0 : 0 < q := by omega
    have hs0 : 0 < s := by omega
    have m1 := Nat.mod_lt p hq0
    have m2 := Nat.mod_lt r hs0
    rw [step _ p q r s st hq0 hs0 hp hq hr hs]
    by_cases he : p / q = r / s
    · rw [if_pos he, ← ansflip p q r s st he]
      by_cases h3 : p % q = 0 ∨ r % s = 0
      · exact stop _ q (p % q) s (r % s) (!st) h3 (Or.inl hq0) hs0 (by omega) (by omega)
      have hh := half_lt (x := p) (y := q) hq0 (by omega)
      have m3 := Nat.mod_lt q (show 0 < p % q by omega)
      have m4 := Nat.mod_lt s (show 0 < r % s by omega)
      rw [step _ q (p % q) s (r % s) (!st) (by omega) (by omega) hq (by omega) hs (by omega)]
      by_cases he2 : q / (p % q) = s / (r % s)
      · rw [if_pos he2, ← ansflip _ _ _ _ (!st) he2]
        exact ih fuel _ _ _ _ _ (by rw [Nat.pow_succ] at h1; omega) (by omega) (Or.inl (by omega)) (by omega) (by omega) (by omega) (by omega) (by omega)
      · rw [if_neg he2]
    · rw [if_neg he]
theorem noMoreM {p q r s : Nat} (hp : p < 9007199254740992) (hq0 : 0 < q) (hq : q < 9007199254740992) (hr0 : 0 < r) (hr : r < 1048576) (hs0 : 0 < s) (hs : s < 1048576) : f_X7_isNoMore (lN p) (lN q) (lN r) (lN s) = some (if p * s ≤ r * q then iI 1 else iI 0) := by
  have h := frL 53 1000 p q r s true (by omega) (by omega) (Or.inr hq0) hr0 (by omega) (by omega) (by omega) (by omega)
  rw [if_pos rfl] at h
  unfold f_X7_isNoMore
  refine Eq.trans h ?_
  unfold fr_ans
  rw [if_pos rfl]
  by_cases hc : p * s ≤ r * q
  · rw [if_pos hc, decide_eq_true hc]; rfl
  · rw [if_neg hc, decide_eq_false hc]; rfl
end
