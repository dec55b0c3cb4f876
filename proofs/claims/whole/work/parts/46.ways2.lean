section
theorem iL (n : Nat) (h : n < 2147483648) : Int32.toInt64 (iI (n : Int)) = lN n := nI_l h
theorem vp_updL_s (f : Nat → Int64) (k : Nat) (v : Int64) : vp_updL f k v k = v := by simp [vp_updL]
theorem vp_updL_n (f : Nat → Int64) {k b : Nat} (v : Int64) (h : b ≠ k) : vp_updL f k v b = f b := by simp [vp_updL, h]
theorem raisedL {x : IS} {T n : Nat} (h24 : x 24 0 = iI T) (hT : T ≤ 16) (hn : n ≤ 100) (k : Int64 → Option Int64) : ∀ (t fuel i a : Nat), i + t = n → t < fuel → f_X1_raised_L5 x (iI n) k fuel (lN a) (iI i) = k (lN (a * T ^ t)) := by
  intro t
  induction t with
  | zero =>
    intro fuel i a h1 h2
    obtain ⟨fuel, rfl⟩ : ∃ z, fuel = z + 1 := ⟨fuel - 1, by omega⟩
    show f_X1_raised_L5F x (iI n) k (f_X1_raised_L5 x (iI n) k fuel) (lN a) (iI i) = _
    simp (disch := omega) only [f_X1_raised_L5F, Nat.pow_zero, Nat.mul_one, iI_lit, iI_neg, iI_lt, iI_le, iI_eq, iI_add, iI_sub, iI_mul, iI_cl, q_let_r, q_jn_r, q_b1_r, q_b2_r, q_b3_r, if_true, if_false, eq_self, q_gd_in, q_up_s, q_up_n, upd_s, upd_n, if_pos, if_neg]
  | succ t ih =>
    intro fuel i a h1 h2
    obtain ⟨fuel, rfl⟩ : ∃ z, fuel = z + 1 := ⟨fuel - 1, by omega⟩
    show f_X1_raised_L5F x (iI n) k (f_X1_raised_L5 x (iI n) k fuel) (lN a) (iI i) = _
    simp (disch := omega) only [f_X1_raised_L5F, h24, iL, lN_mul, iI_lit, iI_neg, iI_lt, iI_le, iI_eq, iI_add, iI_sub, iI_mul, iI_cl, q_let_r, q_jn_r, q_b1_r, q_b2_r, q_b3_r, if_true, if_false, eq_self, q_gd_in, q_up_s, q_up_n, upd_s, upd_n, if_pos, if_neg]
    rw [Nat.pow_succ, Nat.mul_comm (T ^ t) T, ← Nat.mul_assoc]
    exact ih fuel (i + 1) (a * T) (by omega) (by omega)
theorem raised_s {x : IS} {T n : Nat} (h24 : x 24 0 = iI T) (hT : T ≤ 16) (hn : n ≤ 100) : f_X1_raised x (iI n) = some (lN (T ^ n)) := by
  have := raisedL h24 hT hn (fun e3 => some e3) n 1000 0 1 (by omega) (by omega)
  rw [Nat.one_mul] at this
  exact this
theorem powL {v n : Nat} (hn : n ≤ 100) (k : Int64 → Option Int64) : ∀ (t fuel i a : Nat), i + t = n → t < fuel → f_X7_power1_L5 (lN v) (iI n) k fuel (lN a) (iI i) = k (lN (a * v ^ t)) := by
  intro t
  induction t with
  | zero =>
    intro fuel i a h1 h2
    obtain ⟨fuel, rfl⟩ : ∃ z, fuel = z + 1 := ⟨fuel - 1, by omega⟩
    show f_X7_power1_L5F (lN v) (iI n) k (f_X7_power1_L5 (lN v) (iI n) k fuel) (lN a) (iI i) = _
    simp (disch := omega) only [f_X7_power1_L5F, Nat.pow_zero, Nat.mul_one, iI_lit, iI_neg, iI_lt, iI_le, iI_eq, iI_add, iI_sub, iI_mul, iI_cl, q_let_r, q_jn_r, q_b1_r, q_b2_r, q_b3_r, if_true, if_false, eq_self, q_gd_in, q_up_s, q_up_n, upd_s, upd_n, if_pos, if_neg]
  | succ t ih =>
    intro fuel i a h1 h2
    obtain ⟨fuel, rfl⟩ : ∃ z, fuel = z + 1 := ⟨fuel - 1, by omega⟩
    show f_X7_power1_L5F (lN v) (iI n) k (f_X7_power1_L5 (lN v) (iI n) k fuel) (lN a) (iI i) = _
    simp (disch := omega) only [f_X7_power1_L5F, lN_mul, iI_lit, iI_neg, iI_lt, iI_le, iI_eq, iI_add, iI_sub, iI_mul, iI_cl, q_let_r, q_jn_r, q_b1_r, q_b2_r, q_b3_r, if_true, if_false, eq_self, q_gd_in, q_up_s, q_up_n, upd_s, upd_n, if_pos, if_neg]
    rw [Nat.pow_succ, Nat.mul_comm (v ^ t) v, ← Nat.mul_assoc]
    exact ih fuel (i + 1) (a * v) (by omega) (by omega)
theorem pow_s {v n : Nat} (hn : n ≤ 100) : f_X7_power1 (lN v) (iI n) = some (lN (v ^ n)) := by
  have := powL (v := v) hn (fun e3 => some e3) n 1000 0 1 (by omega) (by omega)
  rw [Nat.one_mul] at this
  exact this
theorem weightL {y : IS} (hb : ∀ v, v < 8 → 0 ≤ (y 4 v).toInt ∧ (y 4 v).toInt ≤ 16) (k : Int32 → Option Int32) : ∀ (t fuel i : Nat), i + t = 8 → t < fuel → f_X7_weight_L4 y k fuel (iI (w_sum (y 4) i)) (iI i) = k (iI (w_sum (y 4) 8)) := by
  intro t
  induction t with
  | zero =>
    intro fuel i h1 h2
    obtain ⟨fuel, rfl⟩ : ∃ z, fuel = z + 1 := ⟨fuel - 1, by omega⟩
    obtain rfl : i = 8 := by omega
    show f_X7_weight_L4F y k (f_X7_weight_L4 y k fuel) _ (iI ((8 : Nat) : Int)) = _
    simp (disch := omega) only [f_X7_weight_L4F, iI_lit, iI_neg, iI_lt, iI_le, iI_eq, iI_add, iI_sub, iI_mul, iI_cl, q_let_r, q_jn_r, q_b1_r, q_b2_r, q_b3_r, if_true, if_false, eq_self, q_gd_in, q_up_s, q_up_n, upd_s, upd_n, if_pos, if_neg]
  | succ t ih =>
    intro fuel i h1 h2
    obtain ⟨fuel, rfl⟩ : ∃ z, fuel = z + 1 := ⟨fuel - 1, by omega⟩
    show f_X7_weight_L4F y k (f_X7_weight_L4 y k fuel) _ (iI i) = _
    have e := ih fuel (i + 1) (by omega) (by omega)
    have e2 : iI (w_sum (y 4) i) + y 4 i = iI (w_sum (y 4) (i + 1)) := by
      show _ = iI (w_sum (y 4) i + (y 4 i).toInt)
      rw [← iI_add, iI_self]
    simp (disch := omega) only [f_X7_weight_L4F, Int.toNat_natCast, e2, iI_lit, iI_neg, iI_lt, iI_le, iI_eq, iI_add, iI_sub, iI_mul, iI_cl, q_let_r, q_jn_r, q_b1_r, q_b2_r, q_b3_r, if_true, if_false, eq_self, q_gd_in, q_up_s, q_up_n, upd_s, upd_n, if_pos, if_neg]
    exact e
theorem weight_s {y : IS} {T : Nat} (hb : ∀ v, v < 8 → 0 ≤ (y 4 v).toInt ∧ (y 4 v).toInt ≤ 16) (hT : w_sum (y 4) 8 = T) : f_X7_weight y = some (iI T) := by
  have := weightL hb (fun e3 => some e3) 8 1000 0 (by omega) (by omega)
  rw [hT] at this
  exact this
theorem fillL (k : JS → Option JS) : ∀ (t fuel i : Nat) (j : JS), i + t = 13 → t < fuel → ∃ j', f_J7_fill_d0a16__X1_waysByHowMany_L6 (0 : Int64) k fuel (iI i) j = k j' ∧ (∀ c, c ≠ 0 → j' c = j c) ∧ (∀ m, m < i → j' 0 m = j 0 m) ∧ ∀ m, i ≤ m → m < 13 → j' 0 m = lN 0 := by
  intro t
  induction t with
  | zero =>
    intro fuel i j h1 h2
    obtain ⟨fuel, rfl⟩ : ∃ z, fuel = z + 1 := ⟨fuel - 1, by omega⟩
    refine ⟨j, ?_, fun _ _ => rfl, fun _ _ => rfl, fun m a b => by omega⟩
    show f_J7_fill_d0a16__X1_waysByHowMany_L6F (0 : Int64) k (f_J7_fill_d0a16__X1_waysByHowMany_L6 (0 : Int64) k fuel) (iI i) j = _
    simp (disch := omega) only [f_J7_fill_d0a16__X1_waysByHowMany_L6F, iI_lit, iI_neg, iI_lt, iI_le, iI_eq, iI_add, iI_sub, iI_mul, iI_cl, q_let_r, q_jn_r, q_b1_r, q_b2_r, q_b3_r, if_true, if_false, eq_self, q_gd_in, q_up_s, q_up_n, upd_s, upd_n, if_pos, if_neg]
  | succ t ih =>
    intro fuel i j h1 h2
    obtain ⟨fuel, rfl⟩ : ∃ z, fuel = z + 1 := ⟨fuel - 1, by omega⟩
    obtain ⟨j', e, p1, p2, p3⟩ := ih fuel (i + 1) (q_upJ j 0 (vp_updL (j 0) i (0 : Int64))) (by omega) (by omega)
    refine ⟨j', ?_, fun c hc => by rw [p1 c hc, q_upJ_n _ _ hc], fun m hm => ?_, fun m a b => ?_⟩
    · show f_J7_fill_d0a16__X1_waysByHowMany_L6F (0 : Int64) k (f_J7_fill_d0a16__X1_waysByHowMany_L6 (0 : Int64) k fuel) (iI i) j = _
      simp (disch := omega) only [f_J7_fill_d0a16__X1_waysByHowMany_L6F, Int.toNat_natCast, iI_lit, iI_neg, iI_lt, iI_le, iI_eq, iI_add, iI_sub, iI_mul, iI_cl, q_let_r, q_jn_r, q_b1_r, q_b2_r, q_b3_r, if_true, if_false, eq_self, q_gd_in, q_up_s, q_up_n, upd_s, upd_n, if_pos, if_neg]
      exact e
    · rw [p2 m (by omega), q_upJ_s, vp_updL_n _ _ (by omega)]
    · by_cases h : m = i
      · rw [p2 m (by omega), q_upJ_s, h, vp_updL_s]; rfl
      · exact p3 m (by omega) b
theorem dpL {x : IS} {a1 a2 a3 v1 v5 : Int32} {A M : Int64} (hA : Int32.toInt64 a1 = A) (hM : Int32.toInt64 v1 = M) (k : JS → Option (Int64 × JS)) : ∀ (m fuel : Nat) (j : JS), m ≤ 12 → m < fuel → ∃ j', f_X1_waysOfRankAtMost_L43 x a1 a2 a3 v1 v5 k fuel (iI m) j = k j' ∧ (∀ c, c ≠ 0 → j' c = j c) ∧ (∀ i, 1 ≤ i → i ≤ m → j' 0 i = j 0 i * M + j 0 (i - 1) * A) ∧ ∀ i, (i = 0 ∨ m < i) → j' 0 i = j 0 i := by
  intro m
  induction m with
  | zero =>
    intro fuel j h1 h2
    obtain ⟨fuel, rfl⟩ : ∃ z, fuel = z + 1 := ⟨fuel - 1, by omega⟩
    refine ⟨j, ?_, fun _ _ => rfl, fun i a b => by omega, fun _ _ => rfl⟩
    show f_X1_waysOfRankAtMost_L43F x a1 a2 a3 v1 v5 k (f_X1_waysOfRankAtMost_L43 x a1 a2 a3 v1 v5 k fuel) (iI ((0 : Nat) : Int)) j = _
    simp (disch := omega) only [f_X1_waysOfRankAtMost_L43F, iI_lit, iI_neg, iI_lt, iI_le, iI_eq, iI_add, iI_sub, iI_mul, iI_cl, q_let_r, q_jn_r, q_b1_r, q_b2_r, q_b3_r, if_true, if_false, eq_self, q_gd_in, q_up_s, q_up_n, upd_s, upd_n, if_pos, if_neg]
  | succ m ih =>
    intro fuel j h1 h2
    obtain ⟨fuel, rfl⟩ : ∃ z, fuel = z + 1 := ⟨fuel - 1, by omega⟩
    obtain ⟨j', e, p1, p2, p3⟩ := ih fuel (q_upJ j 0 (vp_updL (j 0) (m + 1) (j 0 (m + 1) * M + j 0 m * A))) (by omega) (by omega)
    have t1 : ((m + 1 : Nat) : Int).toNat = m + 1 := Int.toNat_natCast _
    have t2 : (((m + 1 : Nat) : Int) - 1).toNat = m := by omega
    have t3 : ((m + 1 : Nat) : Int) + -1 = (m : Int) := by omega
    refine ⟨j', ?_, fun c hc => by rw [p1 c hc, q_upJ_n _ _ hc], fun i a b => ?_, fun i hi => ?_⟩
    · show f_X1_waysOfRankAtMost_L43F x a1 a2 a3 v1 v5 k (f_X1_waysOfRankAtMost_L43 x a1 a2 a3 v1 v5 k fuel) (iI ((m + 1 : Nat) : Int)) j = _
      simp (disch := omega) only [f_X1_waysOfRankAtMost_L43F, t1, t2, t3, hA, hM, iI_lit, iI_neg, iI_lt, iI_le, iI_eq, iI_add, iI_sub, iI_mul, iI_cl, q_let_r, q_jn_r, q_b1_r, q_b2_r, q_b3_r, if_true, if_false, eq_self, q_gd_in, q_up_s, q_up_n, upd_s, upd_n, if_pos, if_neg]
      exact e
    · by_cases h : i = m + 1
      · rw [p3 i (by omega), q_upJ_s, h, vp_updL_s]; rfl
      · rw [p2 i a (by omega), q_upJ_s, vp_updL_n _ _ (by omega), vp_updL_n _ _ (by omega)]
    · rw [p3 i (by omega), q_upJ_s, vp_updL_n _ _ (by omega)]
theorem w_D_z (A M : Nat) : ∀ n k, n < k → w_D A M n k = 0 := by
  intro n
  induction n with
  | zero =>
    intro k h
    obtain ⟨k, rfl⟩ : ∃ z, k = z + 1 := ⟨k - 1, by omega⟩
    rfl
  | succ n ih =>
    intro k h
    obtain ⟨k, rfl⟩ : ∃ z, k = z + 1 := ⟨k - 1, by omega⟩
    show w_D A M n (k + 1) * M + w_D A M n k * A = 0
    rw [ih (k + 1) (by omega), ih k (by omega)]
    omega
theorem dpO {x : IS} {n A M : Nat} {a3 : Int32} (hn : n ≤ 12) (hA : A ≤ 16) (hM : M ≤ 16) (k : JS → Option (Int64 × JS)) : ∀ (t fuel c : Nat) (j : JS), 1 ≤ c → c + t = n + 1 → t < fuel → (∀ i, i < 13 → j 0 i = lN (w_D A M (c - 1) i)) → ∃ j', f_X1_waysOfRankAtMost_L26 x (iI A) (iI n) a3 (iI M) k fuel (iI c) j = k j' ∧ (∀ c, c ≠ 0 → j' c = j c) ∧ ∀ i, i < 13 → j' 0 i = lN (w_D A M n i) := by
  intro t
  induction t with
  | zero =>
    intro fuel c j h0 h1 h2 hj
    obtain ⟨fuel, rfl⟩ : ∃ z, fuel = z + 1 := ⟨fuel - 1, by omega⟩
    obtain rfl : c = n + 1 := by omega
    refine ⟨j, ?_, fun _ _ => rfl, hj⟩
    show f_X1_waysOfRankAtMost_L26F x (iI A) (iI n) a3 (iI M) k (f_X1_waysOfRankAtMost_L26 x (iI A) (iI n) a3 (iI M) k fuel) (iI ((n + 1 : Nat) : Int)) j = _
    unfold f_X1_waysOfRankAtMost_L26F
    rw [if_pos (by rw [iI_lt (by omega) (by omega) (by omega) (by omega)]; omega)]
  | succ t ih =>
    intro fuel c j h0 h1 h2 hj
    obtain ⟨fuel, rfl⟩ : ∃ z, fuel = z + 1 := ⟨fuel - 1, by omega⟩
    have e0 : (0 : Int32).toNatClampNeg = 0 := by decide
    obtain ⟨j1, e1, p1, p2, p3⟩ := dpL (x := x) (a1 := iI A) (a2 := iI n) (a3 := a3) (v1 := iI M) (v5 := iI c) (A := lN A) (M := lN M) (iL A (by omega)) (iL M (by omega)) (fun j12 =>
          q_let (q_upJ j12 0 (vp_updL (j12 0) (0 : Int32).toNatClampNeg ((j12 0 (0 : Int32).toNatClampNeg) * (Int32.toInt64 (iI M))))) fun j19 =>
          q_let (iI (c : Int) + 1) fun v20 =>
          f_X1_waysOfRankAtMost_L26 x (iI A) (iI n) a3 (iI M) k fuel v20 j19) c 1000 j (by omega) (by omega)
    obtain ⟨j2, e2, q1, q2⟩ := ih fuel (c + 1) (q_upJ j1 0 (vp_updL (j1 0) 0 (j1 0 0 * lN M))) (by omega) (by omega) (by omega) (by
      intro i hi
      rw [q_upJ_s, Nat.add_sub_cancel]
      obtain ⟨c', rfl⟩ : ∃ z, c = z + 1 := ⟨c - 1, by omega⟩
      rw [Nat.add_sub_cancel] at hj
      by_cases h : i = 0
      · subst h
        rw [vp_updL_s, p3 0 (Or.inl rfl), hj 0 (by omega), lN_mul]
        rfl
      · rw [vp_updL_n _ _ h]
        obtain ⟨i', rfl⟩ : ∃ z, i = z + 1 := ⟨i - 1, by omega⟩
        by_cases hle : i' + 1 ≤ c' + 1
        · rw [p2 (i' + 1) (by omega) hle, hj (i' + 1) hi, Nat.add_sub_cancel, hj i' (by omega), lN_mul, lN_mul, lN_add]
          rfl
        · rw [p3 (i' + 1) (Or.inr (by omega)), hj (i' + 1) hi, w_D_z A M c' _ (by omega), w_D_z A M (c' + 1) _ (by omega)])
    refine ⟨j2, ?_, fun c' hc => by rw [q1 c' hc, q_upJ_n _ _ hc, p1 c' hc], q2⟩
    show f_X1_waysOfRankAtMost_L26F x (iI A) (iI n) a3 (iI M) k (f_X1_waysOfRankAtMost_L26 x (iI A) (iI n) a3 (iI M) k fuel) (iI c) j = _
    unfold f_X1_waysOfRankAtMost_L26F
    rw [if_neg (by rw [iI_lt (by omega) (by omega) (by omega) (by omega)]; omega), if_neg (by rw [show (12 : Int32) = iI 12 from rfl, iI_lt (by omega) (by omega) (by omega) (by omega)]; omega)]
    refine e1.trans ?_
    simp only [q_let_r]
    rw [e0, iL M (by omega), show iI (c : Int) + 1 = iI ((c + 1 : Nat) : Int) from iI_add _ 1]
    exact e2
theorem sumX {x : IS} {n : Nat} (hn : n ≤ 12) {g : Nat → Nat} {j : JS} (hj : ∀ i, i < 13 → j 0 i = lN (g i)) (k : Int64 → JS → Option (Int64 × JS)) : ∀ (t fuel i a : Nat), i + t = n + 1 → t < fuel → f_X1_waysOfRankAtMost_L113 x (iI n) k fuel (lN a) (iI i) j = k (lN (a + w_ts g t i)) j := by
  intro t
  induction t with
  | zero =>
    intro fuel i a h1 h2
    obtain ⟨fuel, rfl⟩ : ∃ z, fuel = z + 1 := ⟨fuel - 1, by omega⟩
    show f_X1_waysOfRankAtMost_L113F x (iI n) k (f_X1_waysOfRankAtMost_L113 x (iI n) k fuel) (lN a) (iI i) j = _
    simp (disch := omega) only [f_X1_waysOfRankAtMost_L113F, w_ts, Nat.add_zero, iI_lit, iI_neg, iI_lt, iI_le, iI_eq, iI_add, iI_sub, iI_mul, iI_cl, q_let_r, q_jn_r, q_b1_r, q_b2_r, q_b3_r, if_true, if_false, eq_self, q_gd_in, q_up_s, q_up_n, upd_s, upd_n, if_pos, if_neg]
  | succ t ih =>
    intro fuel i a h1 h2
    obtain ⟨fuel, rfl⟩ : ∃ z, fuel = z + 1 := ⟨fuel - 1, by omega⟩
    show f_X1_waysOfRankAtMost_L113F x (iI n) k (f_X1_waysOfRankAtMost_L113 x (iI n) k fuel) (lN a) (iI i) j = _
    simp (disch := omega) only [f_X1_waysOfRankAtMost_L113F, Int.toNat_natCast, hj, lN_add, iI_lit, iI_neg, iI_lt, iI_le, iI_eq, iI_add, iI_sub, iI_mul, iI_cl, q_let_r, q_jn_r, q_b1_r, q_b2_r, q_b3_r, if_true, if_false, eq_self, q_gd_in, q_up_s, q_up_n, upd_s, upd_n, if_pos, if_neg]
    rw [show a + w_ts g (t + 1) i = a + g i + w_ts g t (i + 1) from (Nat.add_assoc _ _ _).symm]
    exact ih fuel (i + 1) (a + g i) (by omega) (by omega)
theorem waysX {x : IS} {j : JS} {T s n K : Nat} (h24 : x 24 0 = iI T) (hT : T ≤ 16) (hs : s ≤ T) (hn : n ≤ 12) (hK : K ≤ 12) : ∃ j', f_X1_waysOfRankAtMost x j (iI s) (iI n) (iI K) = some (lN (w_R s (T - s) n (min K n)), j') ∧ ∀ c, c ≠ 0 → j' c = j c := by
  obtain ⟨j1, e1, p1, p2, p3⟩ := fillL (fun j3 => some j3) 13 1000 0 j (by omega) (by omega)
  have e0 : (0 : Int32).toNatClampNeg = 0 := by decide
  have hj1 : ∀ i, i < 13 → q_upJ j1 0 (vp_updL (j1 0) 0 (1 : Int64)) 0 i = lN (w_D s (T - s) (1 - 1) i) := by
    intro i hi
    rw [q_upJ_s]
    by_cases h : i = 0
    · subst h; rw [vp_updL_s]; rfl
    · rw [vp_updL_n _ _ h, p3 i (by omega) hi, w_D_z _ _ _ _ (by omega)]
  obtain ⟨j2, e2, q1, q2⟩ := dpO (x := x) (a3 := iI K) (n := n) (A := s) (M := T - s) hn (by omega) (by omega) (fun j7 =>
      q_let ((if iI (n : Int) < iI (K : Int) then iI (n : Int) else iI (K : Int))) fun v21 =>
      f_X1_waysOfRankAtMost_L113 x (iI n) (fun e24 j26 =>
          some (e24, j26)) 1000 (0 : Int64) v21 j7) n 1000 1 _ (by omega) (by omega) (by omega) hj1
  have e3 := sumX (x := x) hn q2 (fun e24 j26 => some (e24, j26)) (n + 1 - min K n) 1000 (min K n) 0 (by omega) (by omega)
  refine ⟨j2, ?_, fun c hc => by rw [q1 c hc, q_upJ_n _ _ hc, p1 c hc]⟩
  unfold f_X1_waysOfRankAtMost
  rw [q_let_r, h24, show iI (T : Int) - iI (s : Int) = iI ((T - s : Nat) : Int) from by rw [iI_sub]; congr 1; omega]
  refine (q_b1_s e1).trans ?_
  rw [q_let_r, e0]
  refine e2.trans ?_
  rw [q_let_r, show (if iI (n : Int) < iI (K : Int) then iI (n : Int) else iI (K : Int)) = iI ((min K n : Nat) : Int) from by
    by_cases h : n < K
    · rw [if_pos (by rw [iI_lt (by omega) (by omega) (by omega) (by omega)]; omega)]; congr 2; omega
    · rw [if_neg (by rw [iI_lt (by omega) (by omega) (by omega) (by omega)]; omega)]; congr 2; omega]
  rw [w_D_R _ _ _ _ _ (by omega), Nat.zero_add] at e3
  exact e3
theorem withL {y : IS} {n s T : Nat} (hn : n ≤ 12) (hs : s ≤ T) (k : Int64 → Option Int64) : ∀ (t fuel i a : Nat), i + t = n + 1 → t < fuel → f_X7_within_L38 y (iI n) (lN s) (lN T) k fuel (lN a) (iI i) = k (lN (a + w_ts (w_D s (T - s) n) t i)) := by
  intro t
  induction t with
  | zero =>
    intro fuel i a h1 h2
    obtain ⟨fuel, rfl⟩ : ∃ z, fuel = z + 1 := ⟨fuel - 1, by omega⟩
    show f_X7_within_L38F y (iI n) (lN s) (lN T) k (f_X7_within_L38 y (iI n) (lN s) (lN T) k fuel) (lN a) (iI i) = _
    simp (disch := omega) only [f_X7_within_L38F, w_ts, Nat.add_zero, iI_lit, iI_neg, iI_lt, iI_le, iI_eq, iI_add, iI_sub, iI_mul, iI_cl, q_let_r, q_jn_r, q_b1_r, q_b2_r, q_b3_r, if_true, if_false, eq_self, q_gd_in, q_up_s, q_up_n, upd_s, upd_n, if_pos, if_neg]
  | succ t ih =>
    intro fuel i a h1 h2
    obtain ⟨fuel, rfl⟩ : ∃ z, fuel = z + 1 := ⟨fuel - 1, by omega⟩
    show f_X7_within_L38F y (iI n) (lN s) (lN T) k (f_X7_within_L38 y (iI n) (lN s) (lN T) k fuel) (lN a) (iI i) = _
    unfold f_X7_within_L38F
    rw [if_neg (by rw [iI_lt (by omega) (by omega) (by omega) (by omega)]; omega), q_b1_s (choose_s n (by omega) i (by omega) (by omega)), q_b1_s (pow_s (by omega)), lN_sub hs, show iI (n : Int) - iI (i : Int) = iI ((n - i : Nat) : Int) from by rw [iI_sub]; congr 1; omega, q_b1_s (pow_s (by omega)), q_let_r, q_let_r, lN_mul, lN_mul, lN_add, show iI (i : Int) + 1 = iI ((i + 1 : Nat) : Int) from iI_add _ 1, ← w_D_c s (T - s) n i (by omega)]
    rw [show a + w_ts (w_D s (T - s) n) (t + 1) i = a + w_D s (T - s) n i + w_ts (w_D s (T - s) n) t (i + 1) from (Nat.add_assoc _ _ _).symm]
    exact ih fuel (i + 1) _ (by omega) (by omega)
theorem waysM {y : IS} {T s n K : Nat} (hb : ∀ v, v < 8 → 0 ≤ (y 4 v).toInt ∧ (y 4 v).toInt ≤ 16) (hT : w_sum (y 4) 8 = T) (hT2 : T ≤ 16) (hs : s ≤ T) (hn : n ≤ 12) (hK : K ≤ 12) (h98 : y 5 98 = iI K) : f_X7_within y (iI n) (lN s) = some (lN (w_R s (T - s) n (min K n))) := by
  have e98 : (98 : Int32).toNatClampNeg = 98 := by decide
  have e := withL (y := y) hn hs (fun e9 => some e9) (n + 1 - min K n) 1000 (min K n) 0 (by omega) (by omega)
  rw [w_D_R _ _ _ _ _ (by omega), Nat.zero_add] at e
  unfold f_X7_within
  rw [q_jn_r, e98, h98]
  by_cases h : n ≤ K
  · rw [if_pos (by rw [iI_le (by omega) (by omega) (by omega) (by omega)]; omega)]
    refine (q_b1_s (weight_s hb hT)).trans ?_
    rw [q_let_r, iL T (by omega)]
    rw [show min K n = n by omega] at e ⊢
    exact e
  · rw [if_neg (by rw [iI_le (by omega) (by omega) (by omega) (by omega)]; omega)]
    refine (q_b1_s (weight_s hb hT)).trans ?_
    rw [q_let_r, iL T (by omega)]
    rw [show min K n = K by omega] at e ⊢
    exact e
end
