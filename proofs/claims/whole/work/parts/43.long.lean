section
theorem lN_I {n : Nat} (h : n < 9223372036854775808) : (lN n).toInt = (n : Int) := lg_ofNat_toInt (by omega)
theorem lN_lt' {a b : Nat} (ha : a < 9223372036854775808) (hb : b < 9223372036854775808) : (lN a < lN b) = (a < b) := by rw [Int64.lt_iff_toInt_lt, lN_I ha, lN_I hb, Int.ofNat_lt]
theorem lN_le' {a b : Nat} (ha : a < 9223372036854775808) (hb : b < 9223372036854775808) : (lN a ≤ lN b) = (a ≤ b) := by rw [Int64.le_iff_toInt_le, lN_I ha, lN_I hb, Int.ofNat_le]
theorem lN_eq' {a b : Nat} (ha : a < 9223372036854775808) (hb : b < 9223372036854775808) : (lN a = lN b) = (a = b) := by rw [← Int64.toInt_inj, lN_I ha, lN_I hb, Int.ofNat_inj]
theorem lN_div {a b : Nat} (ha : a < 9223372036854775808) (hb : b < 9223372036854775808) : lN a / lN b = lN (a / b) := by
  have hd : a / b < 9223372036854775808 := Nat.lt_of_le_of_lt (Nat.div_le_self a b) ha
  apply Int64.toInt_inj.mp
  rw [Int64.toInt_div, lN_I ha, lN_I hb, lN_I hd, ← Int.ofNat_tdiv]
  generalize a / b = d at hd ⊢
  apply Int.bmod_eq_of_le
  · omega
  · omega
theorem lN_rem {a b : Nat} (ha : a < 9223372036854775808) (hb : b < 9223372036854775808) : lN a - lN a / lN b * lN b = lN (a % b) := by
  have h1 : a / b * b ≤ a := Nat.div_mul_le_self a b
  rw [lN_div ha hb, lN_mul, lN_sub h1]
  congr 1
  have := Nat.div_add_mod a b
  rw [Nat.mul_comm] at this
  omega
theorem lN_0 : (0 : Int64) = lN 0 := rfl
theorem lN_cmp0 {a : Nat} (ha : a < 9223372036854775808) : (lg_cmp (lN a) (0 : Int64) = 0) = (a = 0) := by
  rw [lN_0, lg_cmp_eq, lN_eq' ha (by omega)]
theorem lN_and {a : Nat} (ha : a < 9223372036854775808) : lN a &&& lN 67108863 = lN (a % 67108864) := by
  apply Int64.toBitVec_inj.mp
  apply BitVec.eq_of_toNat_eq
  show ((BitVec.ofNat 64 a) &&& (BitVec.ofNat 64 67108863)).toNat = (BitVec.ofNat 64 (a % 67108864)).toNat
  rw [BitVec.toNat_and, BitVec.toNat_ofNat, BitVec.toNat_ofNat, BitVec.toNat_ofNat, Nat.mod_eq_of_lt (show a < 2 ^ 64 by omega), Nat.mod_eq_of_lt (show 67108863 < 2 ^ 64 by decide), Nat.mod_eq_of_lt (show a % 67108864 < 2 ^ 64 by omega)]
  exact Nat.and_two_pow_sub_one_eq_mod a 26
theorem lN_shr {a : Nat} (ha : a < 9223372036854775808) : lN a >>> (((26 : Int32)).toInt64 &&& 63) = lN (a / 67108864) := by
  have hs : (((26 : Int32)).toInt64 &&& 63 : Int64) = lN 26 := by decide +kernel
  rw [hs]
  apply Int64.toInt_inj.mp
  have hd : a / 67108864 < 9223372036854775808 := Nat.lt_of_le_of_lt (Nat.div_le_self a _) ha
  rw [lN_I hd]
  show ((BitVec.ofNat 64 a).sshiftRight (((BitVec.ofNat 64 26).smod 64).toNat)).toInt = _
  rw [show ((BitVec.ofNat 64 26).smod 64).toNat = 26 from by decide, BitVec.toInt_sshiftRight]
  rw [show (BitVec.ofNat 64 a).toInt = (a : Int) from lN_I ha, Int.shiftRight_eq_div_pow]
  omega
theorem lN_mask : ((1 : Int64) <<< (((26 : Int32)).toInt64 &&& 63)) - (1 : Int64) = lN 67108863 := by decide +kernel
/-! the greatest common divisor -/
theorem half_lt {x y : Nat} (hy : 0 < y) (hr : 0 < x % y) : 2 * (y % (x % y)) < y := by
  have h1 : x % y < y := Nat.mod_lt x hy
  have h2 : y % (x % y) < x % y := Nat.mod_lt y hr
  have h3 := Nat.div_add_mod y (x % y)
  have h4 : 1 ≤ y / (x % y) := (Nat.one_le_div_iff hr).mpr (Nat.le_of_lt h1)
  have h5 : x % y ≤ (x % y) * (y / (x % y)) := Nat.le_mul_of_pos_right _ h4
  omega
theorem gcdM (k : Int64 → Option Int64) : ∀ (t fuel x y : Nat), y < 2 ^ t → 2 * t + 1 ≤ fuel → x < 9223372036854775808 → y < 9223372036854775808 → f_X7_common_L6 k fuel (lN x) (lN y) = k (lN (Nat.gcd x y)) := by
  intro t
  induction t with
  | zero =>
    intro fuel x y h1 h2 hx hy
    obtain ⟨fuel, rfl⟩ : ∃ z, fuel = z + 1 := ⟨fuel - 1, by omega⟩
    obtain rfl : y = 0 := by omega
    show f_X7_common_L6F k (f_X7_common_L6 k fuel) (lN x) (lN 0) = _
    unfold f_X7_common_L6F
    rw [if_pos (by rw [lN_cmp0 hy]), Nat.gcd_zero_right]
  | succ t ih =>
    intro fuel x y h1 h2 hx hy
    have step : ∀ (fuel x y : Nat), 0 < y → x < 9223372036854775808 → y < 9223372036854775808 → f_X7_common_L6 k (fuel + 1) (lN x) (lN y) = f_X7_common_L6 k fuel (lN y) (lN (x % y)) := by
      intro fuel x y h0 hx hy
      show f_X7_common_L6F k (f_X7_common_L6 k fuel) (lN x) (lN y) = _
      unfold f_X7_common_L6F
      rw [if_neg (by rw [lN_cmp0 hy]; omega), q_gd_t (by rw [lN_0, lN_eq' hy (by omega)]; omega), q_let_r, lN_rem hx hy]
    by_cases h0 : y = 0
    · subst h0
      obtain ⟨fuel, rfl⟩ : ∃ z, fuel = z + 1 := ⟨fuel - 1, by omega⟩
      show f_X7_common_L6F k (f_X7_common_L6 k fuel) (lN x) (lN 0) = _
      unfold f_X7_common_L6F
      rw [if_pos (by rw [lN_cmp0 hy]), Nat.gcd_zero_right]
    · obtain ⟨fuel, rfl⟩ : ∃ z, fuel = z + 1 + 1 := ⟨fuel - 2, by omega⟩
      have hr := Nat.mod_lt x (Nat.pos_of_ne_zero h0)
      rw [step _ _ _ (by omega) hx hy]
      by_cases hr0 : x % y = 0
      · rw [hr0]
        show f_X7_common_L6F k (f_X7_common_L6 k fuel) (lN y) (lN 0) = _
        unfold f_X7_common_L6F
        rw [if_pos (by rw [lN_cmp0 (by omega)]), Nat.gcd_comm, Nat.gcd_rec, hr0, Nat.gcd_zero_left]
      · have hh := half_lt (x := x) (y := y) (by omega) (by omega)
        rw [step _ _ _ (by omega) hy (by omega), ih fuel _ _ (by rw [Nat.pow_succ] at h1; omega) (by omega) (by omega) (by omega)]
        rw [Nat.gcd_comm x y, Nat.gcd_rec y x, Nat.gcd_comm (x % y) y, Nat.gcd_comm (x % y) (y % (x % y)), ← Nat.gcd_rec, Nat.gcd_comm]
theorem gcdX (k : Int64 → Option Int64) : ∀ (t fuel s x y : Nat), y < 2 ^ t → 2 * t + 1 ≤ fuel → s + 2 * t ≤ 199 → x < 9223372036854775808 → y < 9223372036854775808 → f_X6_commonDivisor_L9 k fuel (lN x) (lN y) (iI s) = k (lN (Nat.gcd x y)) := by
  intro t
  induction t with
  | zero =>
    intro fuel s x y h1 h2 hs hx hy
    obtain ⟨fuel, rfl⟩ : ∃ z, fuel = z + 1 := ⟨fuel - 1, by omega⟩
    obtain rfl : y = 0 := by omega
    show f_X6_commonDivisor_L9F k (f_X6_commonDivisor_L9 k fuel) (lN x) (lN 0) (iI s) = _
    unfold f_X6_commonDivisor_L9F
    rw [if_neg (by rw [show (200 : Int32) = iI 200 from rfl, iI_le (by omega) (by omega) (by omega) (by omega)]; omega), if_pos (by rw [lN_cmp0 hy]), Nat.gcd_zero_right]
  | succ t ih =>
    intro fuel s x y h1 h2 hs hx hy
    have step : ∀ (fuel s x y : Nat), s < 200 → 0 < y → x < 9223372036854775808 → y < 9223372036854775808 → f_X6_commonDivisor_L9 k (fuel + 1) (lN x) (lN y) (iI s) = f_X6_commonDivisor_L9 k fuel (lN y) (lN (x % y)) (iI ((s + 1 : Nat) : Int)) := by
      intro fuel s x y hs h0 hx hy
      show f_X6_commonDivisor_L9F k (f_X6_commonDivisor_L9 k fuel) (lN x) (lN y) (iI s) = _
      unfold f_X6_commonDivisor_L9F
      rw [if_neg (by rw [show (200 : Int32) = iI 200 from rfl, iI_le (by omega) (by omega) (by omega) (by omega)]; omega), if_neg (by rw [lN_cmp0 hy]; omega), q_gd_t (by rw [lN_0, lN_eq' hy (by omega)]; omega), q_let_r, q_let_r, lN_rem hx hy, show iI (s : Int) + 1 = iI ((s + 1 : Nat) : Int) from iI_add _ 1]
    have stop : ∀ (fuel s x : Nat), s < 200 → x < 9223372036854775808 → f_X6_commonDivisor_L9 k (fuel + 1) (lN x) (lN 0) (iI s) = k (lN x) := by
      intro fuel s x hs hx
      show f_X6_commonDivisor_L9F k (f_X6_commonDivisor_L9 k fuel) (lN x) (lN 0) (iI s) = _
      unfold f_X6_commonDivisor_L9F
      rw [if_neg (by rw [show (200 : Int32) = iI 200 from rfl, iI_le (by omega) (by omega) (by omega) (by omega)]; omega), if_pos (by rw [lN_cmp0 (by omega)])]
    by_cases h0 : y = 0
    · subst h0
      obtain ⟨fuel, rfl⟩ : ∃ z, fuel = z + 1 := ⟨fuel - 1, by omega⟩
      rw [stop fuel s x (by omega) hx, Nat.gcd_zero_right]
    · obtain ⟨fuel, rfl⟩ : ∃ z, fuel = z + 1 + 1 := ⟨fuel - 2, by omega⟩
      have hr := Nat.mod_lt x (Nat.pos_of_ne_zero h0)
      rw [step _ _ _ _ (by omega) (by omega) hx hy]
      by_cases hr0 : x % y = 0
      · rw [hr0, stop _ _ _ (by omega) hy, Nat.gcd_comm, Nat.gcd_rec, hr0, Nat.gcd_zero_left]
      · have hh := half_lt (x := x) (y := y) (by omega) (by omega)
        rw [step _ _ _ _ (by omega) (by omega) hy (by omega), ih fuel _ _ _ (by rw [Nat.pow_succ] at h1; omega) (by omega) (by omega) (by omega) (by omega)]
        rw [Nat.gcd_comm x y, Nat.gcd_rec y x, Nat.gcd_comm (x % y) y, Nat.gcd_comm (x % y) (y % (x % y)), ← Nat.gcd_rec, Nat.gcd_comm]
theorem gcd_s {x y : Nat} (hx : x < 9007199254740992) (hy : y < 9007199254740992) : f_X6_commonDivisor (lN x) (lN y) = some (lN (Nat.gcd x y)) ∧ f_X7_common (lN x) (lN y) = some (lN (Nat.gcd x y)) :=
  ⟨gcdX (fun e4 => some e4) 53 1000 0 x y (by omega) (by omega) (by omega) (by omega) (by omega), gcdM (fun e3 => some e3) 53 1000 x y (by omega) (by omega) (by omega) (by omega)⟩
end
