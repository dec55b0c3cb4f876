section
theorem di_of {x y : IS} {n : Nat} (hr : q_Ir n x y) (hd : q_Id x y) : ∃ (T r K a b : Nat) (w S : Nat → Nat), w_di x y T r K w S ∧ x 10 3 = iI a ∧ x 10 4 = iI b ∧ y 5 99 = iI a ∧ y 5 100 = iI b ∧ 1 ≤ a ∧ a ≤ 40 ∧ 1 ≤ b ∧ b ≤ 40 := by
  obtain ⟨hv, -⟩ := vw_of hr
  obtain ⟨-, n2, hV, -, hk, h14, -, -⟩ := hv
  obtain ⟨r1, r2, -, -, k1, k2⟩ := w_V_rg hV
  have v3 := hV.2.2.1 3 (by omega)
  have v4 := hV.2.2.1 4 (by omega)
  obtain ⟨hd1, hd2, hd3, hd4⟩ := hd
  have nn : ∀ v, v ≤ 8 → 0 ≤ w_sum (y 4) v := by
    intro v
    induction v with
    | zero => intro _; exact Int.le_refl _
    | succ v ih =>
      intro hv
      have := ih (by omega)
      have := (hd1 v (by omega)).2.1
      show 0 ≤ w_sum (y 4) v + (y 4 v).toInt
      omega
  have lit : ∀ {v : Int32} {c : Int}, v.toInt = c → v = iI c := fun {v c} h => by rw [← h, iI_self]
  refine ⟨(w_sum (y 4) 8).toNat, (y 5 96).toInt.toNat, (y 5 98).toInt.toNat, (y 5 99).toInt.toNat, (y 5 100).toInt.toNat, fun v => (y 4 v).toInt.toNat, fun v => (w_sum (y 4) v).toNat, ⟨by omega, by omega, by omega, by omega, by omega, ?_, ?_, ?_, lit (by omega), lit (by omega), h14, fun v hv => ?_, by omega, rfl, fun v hv => ?_, rfl⟩, ?_, ?_, lit ?_, lit ?_, ?_, ?_, ?_, ?_⟩
  · rw [hd2]; congr 1; omega
  · rw [hk 0 (by omega)]; exact lit (by show (y 5 96).toInt = _; omega)
  · rw [hk 2 (by omega)]; exact lit (by show (y 5 98).toInt = _; omega)
  · obtain ⟨z1, z2, z3⟩ := hd1 v hv
    have zz : (y 4 v).toInt = (((y 4 v).toInt.toNat : Nat) : Int) := by omega
    exact ⟨by rw [z1]; exact lit zz, lit zz, by show (y 4 v).toInt.toNat ≤ 16; omega⟩
  · have := nn v (by omega)
    have := (hd1 v hv).2.1
    show (w_sum (y 4) v + (y 4 v).toInt).toNat = (w_sum (y 4) v).toNat + (y 4 v).toInt.toNat
    omega
  · rw [hk 3 (by omega)]; exact lit (by have := v3.1; show (y 5 99).toInt = _; rw [show w_lo 3 = 1 from rfl] at this; simp only [show 96 + 3 = 99 from rfl] at this; omega)
  · rw [hk 4 (by omega)]; exact lit (by have := v4.1; show (y 5 100).toInt = _; rw [show w_lo 4 = 1 from rfl] at this; simp only [show 96 + 4 = 100 from rfl] at this; omega)
  · have := v3.1; rw [show w_lo 3 = 1 from rfl] at this; simp only [show 96 + 3 = 99 from rfl] at this; omega
  · have := v4.1; rw [show w_lo 4 = 1 from rfl] at this; simp only [show 96 + 4 = 100 from rfl] at this; omega
  · have := v3.1; rw [show w_lo 3 = 1 from rfl] at this; simp only [show 96 + 3 = 99 from rfl] at this; omega
  · have := v3.2; rw [show w_hi 3 = 40 from rfl] at this; simp only [show 96 + 3 = 99 from rfl] at this; omega
  · have := v4.1; rw [show w_lo 4 = 1 from rfl] at this; simp only [show 96 + 4 = 100 from rfl] at this; omega
  · have := v4.2; rw [show w_hi 4 = 40 from rfl] at this; simp only [show 96 + 4 = 100 from rfl] at this; omega
theorem allX {x y : IS} {T r K : Nat} {w S : Nat → Nat} (h : w_di x y T r K w S) : f_X1_allWays x (iI r) = some (lN (T ^ (2 * r + 1))) := by
  obtain ⟨hT, hT1, hr1, hr6, hK, h24, -⟩ := h
  unfold f_X1_allWays
  rw [show (2 : Int32) * iI (r : Int) + 1 = iI ((2 * r + 1 : Nat) : Int) from by rw [show (2 : Int32) = iI 2 from rfl, show (1 : Int32) = iI 1 from rfl, iI_mul, iI_add]; rfl]
  exact q_b1_s (raised_s h24 hT (by omega))
theorem allM {x y : IS} {T r K : Nat} {w S : Nat → Nat} (h : w_di x y T r K w S) : f_X7_allWays y = some (lN (T ^ (2 * r + 1))) := by
  have hb := w_di_b h
  obtain ⟨hT, hT1, hr1, hr6, hK, h24, -, -, h96, -, -, -, hsum, -⟩ := h
  have e96 : (96 : Int32).toNatClampNeg = 96 := by decide
  unfold f_X7_allWays
  refine (q_b1_s (weight_s hb hsum)).trans ?_
  rw [e96, h96, iL T (by omega), show (2 : Int32) * iI (r : Int) + 1 = iI ((2 * r + 1 : Nat) : Int) from by rw [show (2 : Int32) = iI 2 from rfl, show (1 : Int32) = iI 1 from rfl, iI_mul, iI_add]; rfl]
  exact q_b1_s (pow_s (by omega))
theorem qt_odds : qs_odds q_I := by
  intro x j y hI a1
  obtain ⟨ht, n, hr, hp, hd, hc⟩ := id hI
  obtain ⟨T, r, K, a, b, w, S, h, x3, x4, y99, y100, a1', a2', b1', b2'⟩ := di_of hr hd
  obtain ⟨z, hz1, hz2, rfl⟩ := iI_of a1
  by_cases hbad : z < 0 ∨ 1 < z
  · refine ⟨-1, j, ?_, ?_, hI⟩
    · unfold f_X6_odds
      by_cases h0 : z < 0
      · rw [if_pos (by rw [show (0 : Int32) = iI 0 from rfl, iI_lt (by omega) (by omega) (by omega) (by omega)]; omega)]
      · rw [if_neg (by rw [show (0 : Int32) = iI 0 from rfl, iI_lt (by omega) (by omega) (by omega) (by omega)]; omega), if_neg (by rw [show (1 : Int32) = iI 1 from rfl, iI_le (by omega) (by omega) (by omega) (by omega)]; omega)]
    · unfold f_X7_odds
      rw [show (0 : Int32) = iI 0 from rfl, show (1 : Int32) = iI 1 from rfl, isIn_f (by omega) (by omega) (by omega) (by omega) (by omega) (by omega) (by omega), q_b1_r, if_pos rfl]
  obtain ⟨j1, e1, p1⟩ := count_s (j := j) h
  have hw : ∀ v, v < 8 → x 23 v = iI (w v) ∧ w v ≤ 16 := fun v hv => by
    obtain ⟨-, -, -, -, -, -, -, -, -, -, -, hw, -⟩ := h
    exact ⟨(hw v hv).1, (hw v hv).2.2⟩
  have eA := alarm_s (b := b) a1' a2' b2' hw p1
  have eF := false_s h a2' b2' y100
  have hle := above_le (a := a) (b := b) h
  have hX := allX h
  have hM := allM h
  have h14 : x 14 0 = y 5 101 := h.2.2.2.2.2.2.2.2.2.2.1
  have x0 : x 10 0 = iI r := h.2.2.2.2.2.2.1
  have hpw := pow16 (T := T) (n := 2 * r + 1) h.1 (by have := h.2.2.2.1; omega)
  have hpos : 0 < T ^ (2 * r + 1) := Nat.pow_pos h.2.1
  generalize w_ts (fun v => w_ts (fun l => w_t a b w (w_d T r K (y 5 101) S) v l) 8 0) 8 0 = ab at *
  generalize T ^ (2 * r + 1) = be at *
  obtain ⟨g1, g2⟩ := gcd_s (x := ab) (y := be) (by omega) hpw
  have hg : 0 < Nat.gcd ab be := Nat.gcd_pos_of_pos_right ab hpos
  have hgl : Nat.gcd ab be ≤ be := Nat.gcd_le_right ab hpos
  generalize Nat.gcd ab be = gg at *
  have hne : ¬ lN gg = 0 := by rw [lN_0, lN_eq' (by omega) (by omega)]; omega
  have e3 : (3 : Int32).toNatClampNeg = 3 := by decide
  have e4 : (4 : Int32).toNatClampNeg = 4 := by decide
  have e0 : (0 : Int32).toNatClampNeg = 0 := by decide
  have e99 : (99 : Int32).toNatClampNeg = 99 := by decide
  have hXo : f_X6_odds x j (iI z) = (if iI z = 0 then some (lN ab / lN gg, j1) else some (lN be / lN gg, j1)) := by
    unfold f_X6_odds
    rw [if_neg (by rw [show (0 : Int32) = iI 0 from rfl, iI_lt (by omega) (by omega) (by omega) (by omega)]; omega), if_pos (by rw [show (1 : Int32) = iI 1 from rfl, iI_le (by omega) (by omega) (by omega) (by omega)]; omega), h14, e3, e4, e0, x3, x4, x0]
    refine (q_b1_s e1).trans ((q_b1_s eA).trans ((q_b1_s hX).trans ((q_b1_s g1).trans ?_)))
    rw [if_pos (by rw [lg_cmp_gt, lN_0, lN_lt' (by omega) (by omega)]; exact hg), q_gd_t hne, q_gd_t hne]
  have hYo : f_X7_odds y (iI z) = (if iI z = 0 then some (lN ab / lN gg) else some (lN be / lN gg)) := by
    unfold f_X7_odds
    rw [show (0 : Int32) = iI 0 from rfl, show (1 : Int32) = iI 1 from rfl, isIn_t (by omega) (by omega) (by omega) (by omega), q_b1_r, if_neg (by decide), e99, y99]
    refine (q_b1_s eF).trans ((q_b1_s hM).trans ((q_b1_s g2).trans ?_))
    rw [q_gd_t hne, q_gd_t hne]
  rw [hXo, hYo]
  by_cases hz : iI z = 0
  · exact ⟨lN ab / lN gg, j1, by rw [if_pos hz], by rw [if_pos hz], hI⟩
  · exact ⟨lN be / lN gg, j1, by rw [if_neg hz], by rw [if_neg hz], hI⟩
def w_ab (b : Nat) (w d : Nat → Nat) (f : Nat) : Nat := w_ts (fun v => w_ts (fun l => w_t f b w d v l) 8 0) 8 0
def w_fP (b : Nat) (w d : Nat → Nat) (be p q : Nat) (f : Nat) : Bool := decide (w_ab b w d f * q ≤ be * p)
theorem factorX {x y : IS} {T r K b p q : Nat} {w S : Nat → Nat} {j : JS} (h : w_di x y T r K w S) (b2' : b ≤ 40) (x4 : x 10 4 = iI b) (hp2 : p ≤ 1000000) (hq2 : q ≤ 1000000) (hj : ∀ i, i < 8 → j 1 i = lN (w_d T r K (y 5 101) S i)) : ∀ (t fuel f : Nat), 1 ≤ f → f + t = 41 → t < fuel → f_X6_factor_L65 x (iI p) (iI q) (lN (T ^ (2 * r + 1))) (fun j11 => some ((-4 : Int32), j11)) fuel (iI f) j = some (w_en (w_fP b w (w_d T r K (y 5 101) S) (T ^ (2 * r + 1)) p q) t f, j) := by
  have hw : ∀ v, v < 8 → x 23 v = iI (w v) ∧ w v ≤ 16 := fun v hv => by
    obtain ⟨-, -, -, -, -, -, -, -, -, -, -, hw, -⟩ := h
    exact ⟨(hw v hv).1, (hw v hv).2.2⟩
  have hpw := pow16 (T := T) (n := 2 * r + 1) h.1 (by have := h.2.2.2.1; omega)
  have e4 : (4 : Int32).toNatClampNeg = 4 := by decide
  intro t
  induction t with
  | zero =>
    intro fuel f h0 h1 h2
    obtain ⟨fuel, rfl⟩ : ∃ z, fuel = z + 1 := ⟨fuel - 1, by omega⟩
    show f_X6_factor_L65F x (iI p) (iI q) _ _ (f_X6_factor_L65 x (iI p) (iI q) _ _ fuel) (iI f) j = _
    unfold f_X6_factor_L65F
    rw [if_pos (by rw [show (40 : Int32) = iI 40 from rfl, iI_lt (by omega) (by omega) (by omega) (by omega)]; omega)]
    rfl
  | succ t ih =>
    intro fuel f h0 h1 h2
    obtain ⟨fuel, rfl⟩ : ∃ z, fuel = z + 1 := ⟨fuel - 1, by omega⟩
    have eA := alarm_s (b := b) h0 (show f ≤ 40 by omega) b2' hw hj
    have hle := above_le (a := f) (b := b) h
    have e2 := ih fuel (f + 1) (by omega) (by omega) (by omega)
    have hc := noMoreX (p := w_ab b w (w_d T r K (y 5 101) S) f) (q := q) (r := T ^ (2 * r + 1)) (s := p) (Nat.lt_of_le_of_lt hle hpw) (by omega) hpw (by omega)
    show f_X6_factor_L65F x (iI p) (iI q) _ _ (f_X6_factor_L65 x (iI p) (iI q) _ _ fuel) (iI f) j = _
    unfold f_X6_factor_L65F
    rw [if_neg (by rw [show (40 : Int32) = iI 40 from rfl, iI_lt (by omega) (by omega) (by omega) (by omega)]; omega), e4, x4, iL q (by omega), iL p (by omega)]
    refine (q_b1_s eA).trans ((q_b1_s hc).trans ?_)
    rw [if10, q_let_r, show iI (f : Int) + 1 = iI ((f + 1 : Nat) : Int) from iI_add _ 1]
    show _ = some (if w_fP b w (w_d T r K (y 5 101) S) (T ^ (2 * r + 1)) p q f = true then iI f else w_en (w_fP b w (w_d T r K (y 5 101) S) (T ^ (2 * r + 1)) p q) t (f + 1), j)
    by_cases hP : w_ab b w (w_d T r K (y 5 101) S) f * q ≤ T ^ (2 * r + 1) * p
    · rw [if_pos hP, if_pos (show w_fP b w (w_d T r K (y 5 101) S) (T ^ (2 * r + 1)) p q f = true from decide_eq_true hP)]
    · rw [if_neg hP, if_neg (show ¬ w_fP b w (w_d T r K (y 5 101) S) (T ^ (2 * r + 1)) p q f = true from fun h => hP (of_decide_eq_true h))]
      exact e2
theorem factorM {x y : IS} {T r K b p q : Nat} {w S : Nat → Nat} (h : w_di x y T r K w S) (b2' : b ≤ 40) (y100 : y 5 100 = iI b) (hp1 : 1 ≤ p) (hp2 : p ≤ 1000000) (hq1 : 1 ≤ q) (hq2 : q ≤ 1000000) : ∀ (t fuel f : Nat), 1 ≤ f → f + t = 41 → t < fuel → f_X7_factor_L24 y (iI p) (iI q) (some (-4 : Int32)) fuel (iI f) = some (w_en (w_fP b w (w_d T r K (y 5 101) S) (T ^ (2 * r + 1)) p q) t f) := by
  have hpw := pow16 (T := T) (n := 2 * r + 1) h.1 (by have := h.2.2.2.1; omega)
  have hpos : 0 < T ^ (2 * r + 1) := Nat.pow_pos h.2.1
  intro t
  induction t with
  | zero =>
    intro fuel f h0 h1 h2
    obtain ⟨fuel, rfl⟩ : ∃ z, fuel = z + 1 := ⟨fuel - 1, by omega⟩
    show f_X7_factor_L24F y (iI p) (iI q) _ (f_X7_factor_L24 y (iI p) (iI q) _ fuel) (iI f) = _
    unfold f_X7_factor_L24F
    rw [if_pos (by rw [show (40 : Int32) = iI 40 from rfl, iI_lt (by omega) (by omega) (by omega) (by omega)]; omega)]
    rfl
  | succ t ih =>
    intro fuel f h0 h1 h2
    obtain ⟨fuel, rfl⟩ : ∃ z, fuel = z + 1 := ⟨fuel - 1, by omega⟩
    have eF := false_s (a := f) h (by omega) b2' y100
    have hle := above_le (a := f) (b := b) h
    have e2 := ih fuel (f + 1) (by omega) (by omega) (by omega)
    have hc := noMoreM (p := w_ab b w (w_d T r K (y 5 101) S) f) (q := T ^ (2 * r + 1)) (r := p) (s := q) (Nat.lt_of_le_of_lt hle hpw) hpos hpw (by omega) (by omega) (by omega) (by omega)
    show f_X7_factor_L24F y (iI p) (iI q) _ (f_X7_factor_L24 y (iI p) (iI q) _ fuel) (iI f) = _
    unfold f_X7_factor_L24F
    rw [if_neg (by rw [show (40 : Int32) = iI 40 from rfl, iI_lt (by omega) (by omega) (by omega) (by omega)]; omega), iL q (by omega), iL p (by omega)]
    refine (q_b1_s eF).trans ((q_b1_s (allM h)).trans ((q_b1_s hc).trans ?_))
    rw [if10, q_let_r, show iI (f : Int) + 1 = iI ((f + 1 : Nat) : Int) from iI_add _ 1]
    show _ = some (if w_fP b w (w_d T r K (y 5 101) S) (T ^ (2 * r + 1)) p q f = true then iI f else w_en (w_fP b w (w_d T r K (y 5 101) S) (T ^ (2 * r + 1)) p q) t (f + 1))
    rw [Nat.mul_comm p]
    by_cases hP : w_ab b w (w_d T r K (y 5 101) S) f * q ≤ T ^ (2 * r + 1) * p
    · rw [if_pos hP, if_pos (show w_fP b w (w_d T r K (y 5 101) S) (T ^ (2 * r + 1)) p q f = true from decide_eq_true hP)]
    · rw [if_neg hP, if_neg (show ¬ w_fP b w (w_d T r K (y 5 101) S) (T ^ (2 * r + 1)) p q f = true from fun h => hP (of_decide_eq_true h))]
      exact e2
theorem qt_factor : qs_factor q_I := by
  intro x j y hI a1 a2
  obtain ⟨ht, n, hr, hp, hd, hc⟩ := id hI
  obtain ⟨T, r, K, a, b, w, S, h, x3, x4, y99, y100, a1', a2', b1', b2'⟩ := di_of hr hd
  obtain ⟨z, hz1, hz2, rfl⟩ := iI_of a1
  obtain ⟨u, hu1, hu2, rfl⟩ := iI_of a2
  by_cases hbad : z < 1 ∨ 1000000 < z
  · refine ⟨iI (-1), j, ?_, by simp (disch := omega) only [f_X7_factor, isIn_f, iI_lit, iI_neg, iI_lt, iI_le, iI_eq, iI_add, iI_sub, iI_mul, iI_cl, q_let_r, q_jn_r, q_b1_r, q_b2_r, q_b3_r, if_true, if_false, eq_self, q_gd_in, q_up_s, q_up_n, upd_s, upd_n, if_pos, if_neg], hI⟩
    by_cases h0 : z < 1
    · simp (disch := omega) only [f_X6_factor, iI_lit, iI_neg, iI_lt, iI_le, iI_eq, iI_add, iI_sub, iI_mul, iI_cl, q_let_r, q_jn_r, q_b1_r, q_b2_r, q_b3_r, if_true, if_false, eq_self, q_gd_in, q_up_s, q_up_n, upd_s, upd_n, if_pos, if_neg]
    · simp (disch := omega) only [f_X6_factor, iI_lit, iI_neg, iI_lt, iI_le, iI_eq, iI_add, iI_sub, iI_mul, iI_cl, q_let_r, q_jn_r, q_b1_r, q_b2_r, q_b3_r, if_true, if_false, eq_self, q_gd_in, q_up_s, q_up_n, upd_s, upd_n, if_pos, if_neg]
  by_cases hbad2 : u < 1 ∨ 1000000 < u
  · refine ⟨iI (-1), j, ?_, by simp (disch := omega) only [f_X7_factor, isIn_t, isIn_f, iI_lit, iI_neg, iI_lt, iI_le, iI_eq, iI_add, iI_sub, iI_mul, iI_cl, q_let_r, q_jn_r, q_b1_r, q_b2_r, q_b3_r, if_true, if_false, eq_self, q_gd_in, q_up_s, q_up_n, upd_s, upd_n, if_pos, if_neg], hI⟩
    by_cases h0 : u < 1
    · simp (disch := omega) only [f_X6_factor, iI_lit, iI_neg, iI_lt, iI_le, iI_eq, iI_add, iI_sub, iI_mul, iI_cl, q_let_r, q_jn_r, q_b1_r, q_b2_r, q_b3_r, if_true, if_false, eq_self, q_gd_in, q_up_s, q_up_n, upd_s, upd_n, if_pos, if_neg]
    · simp (disch := omega) only [f_X6_factor, iI_lit, iI_neg, iI_lt, iI_le, iI_eq, iI_add, iI_sub, iI_mul, iI_cl, q_let_r, q_jn_r, q_b1_r, q_b2_r, q_b3_r, if_true, if_false, eq_self, q_gd_in, q_up_s, q_up_n, upd_s, upd_n, if_pos, if_neg]
  obtain ⟨p, rfl⟩ : ∃ p : Nat, z = p := ⟨z.toNat, by omega⟩
  obtain ⟨q, rfl⟩ : ∃ q : Nat, u = q := ⟨u.toNat, by omega⟩
  obtain ⟨j1, e1, p1⟩ := count_s (j := j) h
  have h14 : x 14 0 = y 5 101 := h.2.2.2.2.2.2.2.2.2.2.1
  have x0 : x 10 0 = iI r := h.2.2.2.2.2.2.1
  have e0 : (0 : Int32).toNatClampNeg = 0 := by decide
  refine ⟨w_en (w_fP b w (w_d T r K (y 5 101) S) (T ^ (2 * r + 1)) p q) 40 1, j1, ?_, ?_, hI⟩
  · unfold f_X6_factor
    rw [if_neg (by rw [show (1 : Int32) = iI 1 from rfl, iI_lt (by omega) (by omega) (by omega) (by omega)]; omega), if_neg (by rw [show (1000000 : Int32) = iI 1000000 from rfl, iI_lt (by omega) (by omega) (by omega) (by omega)]; omega), if_neg (by rw [show (1 : Int32) = iI 1 from rfl, iI_lt (by omega) (by omega) (by omega) (by omega)]; omega), if_pos (by rw [show (1000000 : Int32) = iI 1000000 from rfl, iI_le (by omega) (by omega) (by omega) (by omega)]; omega), h14, e0, x0]
    refine (q_b1_s e1).trans ((q_b1_s (allX h)).trans ?_)
    exact factorX h b2' x4 (by omega) (by omega) p1 40 1000 1 (by omega) (by omega) (by omega)
  · unfold f_X7_factor
    rw [show (1 : Int32) = iI 1 from rfl, show (1000000 : Int32) = iI 1000000 from rfl, isIn_t (by omega) (by omega) (by omega) (by omega), q_b1_r, if_neg (by decide), isIn_t (by omega) (by omega) (by omega) (by omega), q_b1_r, if_neg (by decide)]
    exact factorM h b2' y100 (by omega) (by omega) (by omega) (by omega) 40 1000 1 (by omega) (by omega) (by omega)
end
