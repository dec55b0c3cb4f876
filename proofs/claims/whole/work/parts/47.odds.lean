section
/-- what the dice, the look and the mode are, on both sides -/
def w_di (x y : IS) (T r K : Nat) (w : Nat → Nat) (S : Nat → Nat) : Prop :=
  T ≤ 16 ∧ 1 ≤ T ∧ 1 ≤ r ∧ r ≤ 6 ∧ K ≤ 12 ∧ x 24 0 = iI T ∧ x 10 0 = iI r ∧ x 10 2 = iI K ∧ y 5 96 = iI r ∧ y 5 98 = iI K ∧ x 14 0 = y 5 101 ∧
  (∀ v, v < 8 → x 23 v = iI (w v) ∧ y 4 v = iI (w v) ∧ w v ≤ 16) ∧ w_sum (y 4) 8 = T ∧ S 0 = 0 ∧ (∀ v, v < 8 → S (v + 1) = S v + w v) ∧ S 8 = T
theorem w_di_b {x y : IS} {T r K : Nat} {w S : Nat → Nat} (h : w_di x y T r K w S) : ∀ v, v < 8 → 0 ≤ (y 4 v).toInt ∧ (y 4 v).toInt ≤ 16 := by
  obtain ⟨-, -, -, -, -, -, -, -, -, -, -, hw, -⟩ := h
  intro v hv
  obtain ⟨-, h2, h3⟩ := hw v hv
  rw [h2, iI_toInt (by omega) (by omega)]
  omega
theorem w_di_S {x y : IS} {T r K : Nat} {w S : Nat → Nat} (h : w_di x y T r K w S) : ∀ v, v ≤ 8 → S v ≤ T := by
  obtain ⟨-, -, -, -, -, -, -, -, -, -, -, hw, -, h0, hS, h8⟩ := h
  have mono : ∀ d v, v + d ≤ 8 → S v ≤ S (v + d) := by
    intro d
    induction d with
    | zero => intro v _; exact Nat.le_refl _
    | succ d ih =>
      intro v hv
      have := ih v (by omega)
      have := hS (v + d) (by omega)
      rw [show v + (d + 1) = v + d + 1 by omega]
      omega
  intro v hv
  have := mono (8 - v) v (by omega)
  rw [show v + (8 - v) = 8 by omega, h8] at this
  exact this
theorem pow16 {T n : Nat} (hT : T ≤ 16) (hn : n ≤ 13) : T ^ n < 9007199254740992 := by
  have h1 : T ^ n ≤ 16 ^ n := Nat.pow_le_pow_left hT n
  have h2 : 16 ^ n ≤ 16 ^ 13 := Nat.pow_le_pow_right (by decide) hn
  have h3 : (16 : Nat) ^ 13 < 9007199254740992 := by decide
  omega
theorem floorX {x y : IS} {j : JS} {T r K : Nat} {w S : Nat → Nat} (h : w_di x y T r K w S) {s : Nat} (hs : s ≤ T) : ∃ j', f_X1_waysOfFloorAtMost x j (iI s) (iI r) (iI K) (y 5 101) = some (lN (w_F T r K (y 5 101) s), j') ∧ ∀ c, c ≠ 0 → j' c = j c := by
  obtain ⟨hT, hT1, hr1, hr6, hK, h24, -⟩ := h
  unfold f_X1_waysOfFloorAtMost w_F
  by_cases h0 : y 5 101 = 0
  · rw [if_pos h0, if_pos h0, show (2 : Int32) * iI (r : Int) = iI ((2 * r : Nat) : Int) from iI_mul 2 _]
    obtain ⟨j', e, p⟩ := waysX (x := x) (j := j) (n := 2 * r) (K := K) h24 hT hs (by omega) hK
    exact ⟨j', q_b2_s e, p⟩
  · rw [if_neg h0, if_neg h0]
    obtain ⟨j', e, p⟩ := waysX (x := x) (j := j) (n := r) (K := K) h24 hT hs (by omega) hK
    refine ⟨j', ?_, p⟩
    refine (q_b2_s e).trans ?_
    by_cases h1 : y 5 101 = 1
    · rw [if_pos h1, if_pos h1, lN_mul]
    · rw [if_neg h1, if_neg h1, q_b1_s (raised_s h24 hT (by omega))]
      have hle := w_R_T (n := r) (K := min K r) hs
      have h2 : (T ^ r - w_R s (T - s) r (min K r)) * (T ^ r - w_R s (T - s) r (min K r)) ≤ T ^ r * T ^ r := Nat.mul_le_mul (by omega) (by omega)
      rw [lN_sub hle, lN_mul, lN_mul, lN_sub h2]
theorem floorM {x y : IS} {T r K : Nat} {w S : Nat → Nat} (h : w_di x y T r K w S) {s : Nat} (hs : s ≤ T) : f_X7_floors y (lN s) = some (lN (w_F T r K (y 5 101) s)) := by
  have hb := w_di_b h
  obtain ⟨hT, hT1, hr1, hr6, hK, h24, -, -, h96, h98, -, -, hsum, -⟩ := h
  have e96 : (96 : Int32).toNatClampNeg = 96 := by decide
  have e101 : (101 : Int32).toNatClampNeg = 101 := by decide
  unfold f_X7_floors w_F
  rw [q_let_r, e96, e101, h96]
  by_cases h0 : y 5 101 = 0
  · rw [if_pos h0, if_pos h0, show (2 : Int32) * iI (r : Int) = iI ((2 * r : Nat) : Int) from iI_mul 2 _]
    exact q_b1_s (waysM hb hsum hT hs (by omega) hK h98)
  · rw [if_neg h0, if_neg h0]
    refine (q_b1_s (waysM hb hsum hT hs (by omega) hK h98)).trans ?_
    refine (q_b1_s (weight_s hb hsum)).trans ?_
    rw [iL T (by omega)]
    refine (q_b1_s (pow_s (by omega))).trans ?_
    by_cases h1 : y 5 101 = 1
    · rw [if_pos h1, if_pos h1, lN_mul]
    · rw [if_neg h1, if_neg h1]
      have hle := w_R_T (n := r) (K := min K r) hs
      have h2 : (T ^ r - w_R s (T - s) r (min K r)) * (T ^ r - w_R s (T - s) r (min K r)) ≤ T ^ r * T ^ r := Nat.mul_le_mul (by omega) (by omega)
      rw [lN_sub hle, lN_mul, lN_mul, lN_sub h2]
/-- the ways up to floor v - 1 -/
def w_G (T r K : Nat) (mode : Int32) (S : Nat → Nat) (v : Nat) : Nat := if v = 0 then 0 else w_F T r K mode (S v)
def w_d (T r K : Nat) (mode : Int32) (S : Nat → Nat) (v : Nat) : Nat := w_F T r K mode (S (v + 1)) - w_G T r K mode S v
theorem w_G_le {x y : IS} {T r K : Nat} {w S : Nat → Nat} (h : w_di x y T r K w S) (mode : Int32) {v : Nat} (hv : v < 8) : w_G T r K mode S v ≤ w_F T r K mode (S (v + 1)) := by
  unfold w_G
  split
  · exact Nat.zero_le _
  · have hS := w_di_S h (v + 1) (by omega)
    obtain ⟨-, -, -, -, -, -, -, -, -, -, -, -, -, -, hS1, -⟩ := h
    exact w_F_mono (by rw [hS1 v hv]; omega) hS
theorem countL {x y : IS} {T r K : Nat} {w S : Nat → Nat} (h : w_di x y T r K w S) (k : JS → Option JS) : ∀ (t fuel v : Nat) (j : JS), v + t = 8 → t < fuel → ∃ j', f_X1_countFloors_L8 x (y 5 101) k fuel (iI (S v)) (lN (w_G T r K (y 5 101) S v)) (iI v) j = k j' ∧ (∀ i, i < v → j' 1 i = j 1 i) ∧ ∀ i, v ≤ i → i < 8 → j' 1 i = lN (w_d T r K (y 5 101) S i) := by
  intro t
  induction t with
  | zero =>
    intro fuel v j h1 h2
    obtain ⟨fuel, rfl⟩ : ∃ z, fuel = z + 1 := ⟨fuel - 1, by omega⟩
    refine ⟨j, ?_, fun _ _ => rfl, fun i a b => by omega⟩
    show f_X1_countFloors_L8F x (y 5 101) k (f_X1_countFloors_L8 x (y 5 101) k fuel) _ _ (iI v) j = _
    unfold f_X1_countFloors_L8F
    rw [if_pos (by rw [show (8 : Int32) = iI 8 from rfl, iI_le (by omega) (by omega) (by omega) (by omega)]; omega)]
  | succ t ih =>
    intro fuel v j h1 h2
    obtain ⟨fuel, rfl⟩ : ∃ z, fuel = z + 1 := ⟨fuel - 1, by omega⟩
    obtain ⟨hT, hT1, hr1, hr6, hK, h24, x100, x102, h96, h98, h14, hw, hsum, S0, S1, S8⟩ := id h
    have hv : v < 8 := by omega
    have hSv := w_di_S h (v + 1) (by omega)
    obtain ⟨j1, e1, p1⟩ := floorX (j := j) h hSv
    obtain ⟨j2, e2, q1, q2⟩ := ih fuel (v + 1) (q_upJ j1 1 (vp_updL (j1 1) v (lN (w_d T r K (y 5 101) S v)))) (by omega) (by omega)
    have e0 : (0 : Int32).toNatClampNeg = 0 := by decide
    have e22 : (2 : Int32).toNatClampNeg = 2 := by decide
    have hcl : (iI (v : Int)).toNatClampNeg = v := by rw [iI_cl (by omega) (by omega)]; exact Int.toNat_natCast v
    have hg : q_in (iI (v : Int)) 8 := iI_in (by omega) (by omega) (by omega)
    have h23 : x 23 (iI (v : Int)).toNatClampNeg = iI (w v) := by rw [hcl]; exact (hw v hv).1
    refine ⟨j2, ?_, fun i hi => ?_, fun i a b => ?_⟩
    · show f_X1_countFloors_L8F x (y 5 101) k (f_X1_countFloors_L8 x (y 5 101) k fuel) _ _ (iI v) j = _
      unfold f_X1_countFloors_L8F
      rw [if_neg (by rw [show (8 : Int32) = iI 8 from rfl, iI_le (by omega) (by omega) (by omega) (by omega)]; omega), q_gd_t hg, q_let_r, h23, e0, e22, x100, x102, show iI (S v : Int) + iI (w v : Int) = iI ((S (v + 1) : Nat) : Int) from by rw [iI_add, S1 v hv]; rfl]
      refine (q_b2_s e1).trans ?_
      rw [q_gd_t hg, q_let_r, q_let_r, hcl, lN_sub (w_G_le h _ hv), show iI (v : Int) + 1 = iI ((v + 1 : Nat) : Int) from iI_add _ 1]
      rw [show w_G T r K (y 5 101) S (v + 1) = w_F T r K (y 5 101) (S (v + 1)) from rfl] at e2
      exact e2
    · rw [q1 i (by omega), q_upJ_s, vp_updL_n _ _ (by omega), p1 1 (by decide)]
    · by_cases hi : i = v
      · rw [q1 i (by omega), q_upJ_s, hi, vp_updL_s]
      · exact q2 i (by omega) b
theorem count_s {x y : IS} {j : JS} {T r K : Nat} {w S : Nat → Nat} (h : w_di x y T r K w S) : ∃ j', f_X1_countFloors x j (y 5 101) = some j' ∧ ∀ i, i < 8 → j' 1 i = lN (w_d T r K (y 5 101) S i) := by
  have h0 : S 0 = 0 := h.2.2.2.2.2.2.2.2.2.2.2.2.2.1
  obtain ⟨j', e, -, p⟩ := countL h (fun j5 => some j5) 8 1000 0 j (by omega) (by omega)
  rw [h0] at e
  exact ⟨j', e, fun i hi => p i (by omega) hi⟩
/-- one pair: the cell of power v alarms over floor l -/
def w_t (a b : Nat) (w d : Nat → Nat) (v l : Nat) : Nat := if a * l < b * v then w v * d l else 0
theorem alarmI {x : IS} {j : JS} {a b v : Nat} {w d : Nat → Nat} (ha : 1 ≤ a) (ha2 : a ≤ 40) (hb2 : b ≤ 40) (hv : v < 8) (hw : x 23 v = iI (w v)) (hw2 : w v ≤ 16) (hd : ∀ i, i < 8 → j 1 i = lN (d i)) (k : Int64 → Option Int64) : ∀ (t fuel l acc : Nat), l + t = 8 → t < fuel → f_X1_alarmWays_L15 x j (iI a) (iI b) (iI v) k fuel (lN acc) (iI l) = k (lN (acc + w_ts (w_t a b w d v) t l)) := by
  have bm : ∀ {p q : Nat}, p ≤ 40 → q ≤ 8 → p * q ≤ 320 := fun {p q} hp hq => Nat.mul_le_mul hp hq
  intro t
  induction t with
  | zero =>
    intro fuel l acc h1 h2
    obtain ⟨fuel, rfl⟩ : ∃ z, fuel = z + 1 := ⟨fuel - 1, by omega⟩
    show f_X1_alarmWays_L15F x j (iI a) (iI b) (iI v) k (f_X1_alarmWays_L15 x j (iI a) (iI b) (iI v) k fuel) (lN acc) (iI l) = _
    unfold f_X1_alarmWays_L15F
    rw [if_pos (by rw [show (8 : Int32) = iI 8 from rfl, iI_le (by omega) (by omega) (by omega) (by omega)]; omega)]
    rfl
  | succ t ih =>
    intro fuel l acc h1 h2
    obtain ⟨fuel, rfl⟩ : ∃ z, fuel = z + 1 := ⟨fuel - 1, by omega⟩
    have m1 := bm hb2 (show v ≤ 8 by omega)
    have m2 := bm ha2 (show l ≤ 8 by omega)
    have hm : iI (b : Int) * iI (v : Int) = iI ((b * v : Nat) : Int) := iI_mul _ _
    have hm2 : iI (a : Int) * iI (l : Int) = iI ((a * l : Nat) : Int) := iI_mul _ _
    show f_X1_alarmWays_L15F x j (iI a) (iI b) (iI v) k (f_X1_alarmWays_L15 x j (iI a) (iI b) (iI v) k fuel) (lN acc) (iI l) = _
    unfold f_X1_alarmWays_L15F
    rw [if_neg (by rw [show (8 : Int32) = iI 8 from rfl, iI_le (by omega) (by omega) (by omega) (by omega)]; omega), hm, hm2]
    by_cases hc : a * l < b * v
    · rw [if_neg (by rw [iI_le (by omega) (by omega) (by omega) (by omega)]; omega), q_gd_t (iI_in (by omega) (by omega) (by omega)), q_gd_t (iI_in (by omega) (by omega) (by omega)), q_let_r, q_let_r, iI_cl (by omega) (by omega), iI_cl (by omega) (by omega), Int.toNat_natCast, Int.toNat_natCast, hw, hd l (by omega), iL _ (by omega), lN_mul, lN_add, show iI (l : Int) + 1 = iI ((l + 1 : Nat) : Int) from iI_add _ 1]
      have : acc + w_ts (w_t a b w d v) (t + 1) l = acc + w v * d l + w_ts (w_t a b w d v) t (l + 1) := by
        show acc + (w_t a b w d v l + _) = _
        unfold w_t
        rw [if_pos hc]
        exact (Nat.add_assoc _ _ _).symm
      rw [this]
      exact ih fuel (l + 1) _ (by omega) (by omega)
    · rw [if_pos (by rw [iI_le (by omega) (by omega) (by omega) (by omega)]; omega)]
      rw [w_ts_0 (t + 1) l (fun i hi1 hi2 => by
        unfold w_t
        have : a * l ≤ a * i := Nat.mul_le_mul_left a hi1
        rw [if_neg (by omega)]), Nat.add_zero]
theorem alarmO {x : IS} {j : JS} {a b : Nat} {w d : Nat → Nat} (ha : 1 ≤ a) (ha2 : a ≤ 40) (hb2 : b ≤ 40) (hw : ∀ v, v < 8 → x 23 v = iI (w v) ∧ w v ≤ 16) (hd : ∀ i, i < 8 → j 1 i = lN (d i)) (k : Int64 → Option Int64) : ∀ (t fuel v acc : Nat), v + t = 8 → t < fuel → f_X1_alarmWays_L5 x j (iI a) (iI b) k fuel (lN acc) (iI v) = k (lN (acc + w_ts (fun v => w_ts (fun l => w_t a b w d v l) 8 0) t v)) := by
  intro t
  induction t with
  | zero =>
    intro fuel v acc h1 h2
    obtain ⟨fuel, rfl⟩ : ∃ z, fuel = z + 1 := ⟨fuel - 1, by omega⟩
    show f_X1_alarmWays_L5F x j (iI a) (iI b) k (f_X1_alarmWays_L5 x j (iI a) (iI b) k fuel) (lN acc) (iI v) = _
    unfold f_X1_alarmWays_L5F
    rw [if_pos (by rw [show (8 : Int32) = iI 8 from rfl, iI_le (by omega) (by omega) (by omega) (by omega)]; omega)]
    rfl
  | succ t ih =>
    intro fuel v acc h1 h2
    obtain ⟨fuel, rfl⟩ : ∃ z, fuel = z + 1 := ⟨fuel - 1, by omega⟩
    show f_X1_alarmWays_L5F x j (iI a) (iI b) k (f_X1_alarmWays_L5 x j (iI a) (iI b) k fuel) (lN acc) (iI v) = _
    unfold f_X1_alarmWays_L5F
    rw [if_neg (by rw [show (8 : Int32) = iI 8 from rfl, iI_le (by omega) (by omega) (by omega) (by omega)]; omega)]
    obtain ⟨hw1, hw2⟩ := hw v (by omega)
    refine (alarmI (w := w) (d := d) ha ha2 hb2 (show v < 8 by omega) hw1 hw2 hd (fun e7 => q_let (iI (v : Int) + 1) fun v14 => f_X1_alarmWays_L5 x j (iI a) (iI b) k fuel e7 v14) 8 1000 0 acc (by omega) (by omega)).trans ?_
    rw [q_let_r, show iI (v : Int) + 1 = iI ((v + 1 : Nat) : Int) from iI_add _ 1]
    rw [show acc + w_ts (fun v => w_ts (fun l => w_t a b w d v l) 8 0) (t + 1) v = acc + w_ts (w_t a b w d v) 8 0 + w_ts (fun v => w_ts (fun l => w_t a b w d v l) 8 0) t (v + 1) from (Nat.add_assoc _ _ _).symm]
    exact ih fuel (v + 1) _ (by omega) (by omega)
theorem alarm_s {x : IS} {j : JS} {a b : Nat} {w d : Nat → Nat} (ha : 1 ≤ a) (ha2 : a ≤ 40) (hb2 : b ≤ 40) (hw : ∀ v, v < 8 → x 23 v = iI (w v) ∧ w v ≤ 16) (hd : ∀ i, i < 8 → j 1 i = lN (d i)) : f_X1_alarmWays x j (iI a) (iI b) = some (lN (w_ts (fun v => w_ts (fun l => w_t a b w d v l) 8 0) 8 0)) := by
  have := alarmO ha ha2 hb2 hw hd (fun e3 => some e3) 8 1000 0 0 (by omega) (by omega)
  rw [Nat.zero_add] at this
  exact this
theorem falseI {y : IS} {a b l : Nat} {w : Nat → Nat} {v1 v2 v8 r9 : Int64} (ha2 : a ≤ 40) (hb2 : b ≤ 40) (h100 : y 5 100 = iI b) (hl : l < 8) (hw : ∀ v, v < 8 → y 4 v = iI (w v) ∧ w v ≤ 16) (k : Int64 → Option Int64) : ∀ (t fuel v acc : Nat), v + t = 8 → t < fuel → f_X7_falses_L45 y (iI a) v1 v2 v8 (iI l) r9 k fuel (lN acc) (iI v) = k (lN (acc + w_ts (fun v => if a * l < b * v then w v else 0) t v)) := by
  have bm : ∀ {p q : Nat}, p ≤ 40 → q ≤ 8 → p * q ≤ 320 := fun {p q} hp hq => Nat.mul_le_mul hp hq
  have e100 : (100 : Int32).toNatClampNeg = 100 := by decide
  intro t
  induction t with
  | zero =>
    intro fuel v acc h1 h2
    obtain ⟨fuel, rfl⟩ : ∃ z, fuel = z + 1 := ⟨fuel - 1, by omega⟩
    show f_X7_falses_L45F y (iI a) v1 v2 v8 (iI l) r9 k (f_X7_falses_L45 y (iI a) v1 v2 v8 (iI l) r9 k fuel) (lN acc) (iI v) = _
    unfold f_X7_falses_L45F
    rw [if_pos (by rw [show (8 : Int32) = iI 8 from rfl, iI_le (by omega) (by omega) (by omega) (by omega)]; omega)]
    rfl
  | succ t ih =>
    intro fuel v acc h1 h2
    obtain ⟨fuel, rfl⟩ : ∃ z, fuel = z + 1 := ⟨fuel - 1, by omega⟩
    have m1 := bm hb2 (show v ≤ 8 by omega)
    have m2 := bm ha2 (show l ≤ 8 by omega)
    have hm : iI (b : Int) * iI (v : Int) = iI ((b * v : Nat) : Int) := iI_mul _ _
    have hm2 : iI (a : Int) * iI (l : Int) = iI ((a * l : Nat) : Int) := iI_mul _ _
    have e := ih fuel (v + 1)
    show f_X7_falses_L45F y (iI a) v1 v2 v8 (iI l) r9 k (f_X7_falses_L45 y (iI a) v1 v2 v8 (iI l) r9 k fuel) (lN acc) (iI v) = _
    unfold f_X7_falses_L45F
    rw [if_neg (by rw [show (8 : Int32) = iI 8 from rfl, iI_le (by omega) (by omega) (by omega) (by omega)]; omega)]
    simp only [q_jn_r, q_let_r]
    rw [e100, h100, hm, hm2, show iI (v : Int) + 1 = iI ((v + 1 : Nat) : Int) from iI_add _ 1]
    have hts : acc + w_ts (fun v => if a * l < b * v then w v else 0) (t + 1) v = acc + (if a * l < b * v then w v else 0) + w_ts (fun v => if a * l < b * v then w v else 0) t (v + 1) := (Nat.add_assoc _ _ _).symm
    rw [hts]
    by_cases hc : a * l < b * v
    · rw [if_neg (by rw [iI_le (by omega) (by omega) (by omega) (by omega)]; omega), q_gd_t (iI_in (by omega) (by omega) (by omega)), iI_cl (by omega) (by omega), Int.toNat_natCast, (hw v (by omega)).1, iL _ (by have := (hw v (by omega)).2; omega), lN_add, if_pos hc]
      exact e _ (by omega) (by omega)
    · rw [if_pos (by rw [iI_le (by omega) (by omega) (by omega) (by omega)]; omega), if_neg hc, lN_0, lN_add]
      exact e _ (by omega) (by omega)
theorem falseO {x y : IS} {T r K a b : Nat} {w S : Nat → Nat} (h : w_di x y T r K w S) (ha2 : a ≤ 40) (hb2 : b ≤ 40) (h100 : y 5 100 = iI b) (k : Int64 → Option Int64) : ∀ (t fuel l acc : Nat), l + t = 8 → t < fuel → f_X7_falses_L11 y (iI a) k fuel (lN acc) (lN (w_G T r K (y 5 101) S l)) (lN (S l)) (iI l) = k (lN (acc + w_ts (fun l => w_d T r K (y 5 101) S l * w_ts (fun v => if a * l < b * v then w v else 0) 8 0) t l)) := by
  intro t
  induction t with
  | zero =>
    intro fuel l acc h1 h2
    obtain ⟨fuel, rfl⟩ : ∃ z, fuel = z + 1 := ⟨fuel - 1, by omega⟩
    show f_X7_falses_L11F y (iI a) k (f_X7_falses_L11 y (iI a) k fuel) (lN acc) _ _ (iI l) = _
    unfold f_X7_falses_L11F
    rw [if_pos (by rw [show (8 : Int32) = iI 8 from rfl, iI_le (by omega) (by omega) (by omega) (by omega)]; omega)]
    rfl
  | succ t ih =>
    intro fuel l acc h1 h2
    obtain ⟨fuel, rfl⟩ : ∃ z, fuel = z + 1 := ⟨fuel - 1, by omega⟩
    have hl : l < 8 := by omega
    have hSl := w_di_S h (l + 1) (by omega)
    have hfl := floorM h hSl
    have hle := w_G_le h (y 5 101) hl
    obtain ⟨hT, hT1, hr1, hr6, hK, h24, x100, x102, h96, h98, h14, hw, hsum, S0, S1, S8⟩ := id h
    have hw' : ∀ v, v < 8 → y 4 v = iI (w v) ∧ w v ≤ 16 := fun v hv => ⟨(hw v hv).2.1, (hw v hv).2.2⟩
    show f_X7_falses_L11F y (iI a) k (f_X7_falses_L11 y (iI a) k fuel) (lN acc) _ _ (iI l) = _
    unfold f_X7_falses_L11F
    rw [if_neg (by rw [show (8 : Int32) = iI 8 from rfl, iI_le (by omega) (by omega) (by omega) (by omega)]; omega), q_gd_t (iI_in (by omega) (by omega) (by omega)), iI_cl (by omega) (by omega), Int.toNat_natCast, (hw l hl).2.1, iL _ (by have := (hw l hl).2.2; omega), lN_add, ← S1 l hl, q_let_r]
    refine (q_b1_s hfl).trans ?_
    refine (falseI (w := w) ha2 hb2 h100 hl hw' (fun e13 =>
        q_let ((lN acc + ((lN (w_F T r K (y 5 101) (S (l + 1))) - lN (w_G T r K (y 5 101) S l)) * e13))) fun v20 =>
        q_let (iI (l : Int) + 1) fun v21 =>
        f_X7_falses_L11 y (iI a) k fuel v20 (lN (w_F T r K (y 5 101) (S (l + 1)))) (lN (S (l + 1))) v21) 8 1000 0 0 (by omega) (by omega)).trans ?_
    rw [q_let_r, q_let_r, Nat.zero_add, lN_sub hle, lN_mul, lN_add, show iI (l : Int) + 1 = iI ((l + 1 : Nat) : Int) from iI_add _ 1]
    have hts : acc + w_ts (fun l => w_d T r K (y 5 101) S l * w_ts (fun v => if a * l < b * v then w v else 0) 8 0) (t + 1) l = acc + w_d T r K (y 5 101) S l * w_ts (fun v => if a * l < b * v then w v else 0) 8 0 + w_ts (fun l => w_d T r K (y 5 101) S l * w_ts (fun v => if a * l < b * v then w v else 0) 8 0) t (l + 1) := (Nat.add_assoc _ _ _).symm
    rw [hts]
    exact ih fuel (l + 1) _ (by omega) (by omega)
theorem false_s {x y : IS} {T r K a b : Nat} {w S : Nat → Nat} (h : w_di x y T r K w S) (ha2 : a ≤ 40) (hb2 : b ≤ 40) (h100 : y 5 100 = iI b) : f_X7_falses y (iI a) = some (lN (w_ts (fun v => w_ts (fun l => w_t a b w (w_d T r K (y 5 101) S) v l) 8 0) 8 0)) := by
  have h0 : S 0 = 0 := h.2.2.2.2.2.2.2.2.2.2.2.2.2.1
  have e := falseO h ha2 hb2 h100 (fun e5 => some e5) 8 1000 0 0 (by omega) (by omega)
  rw [h0, Nat.zero_add] at e
  rw [w_ts_sw]
  have hsw : w_ts (fun l => w_d T r K (y 5 101) S l * w_ts (fun v => if a * l < b * v then w v else 0) 8 0) 8 0 = w_ts (fun j => w_ts (fun i => w_t a b w (w_d T r K (y 5 101) S) i j) 8 0) 8 0 := by
    refine w_ts_c 8 0 (fun l _ _ => ?_)
    rw [Nat.mul_comm, ← w_ts_mul]
    refine w_ts_c 8 0 (fun v _ _ => ?_)
    unfold w_t
    by_cases hc : a * l < b * v
    · rw [if_pos hc, if_pos hc]
    · rw [if_neg hc, if_neg hc, Nat.zero_mul]
  rw [hsw] at e
  exact e
/-- no more ways alarm than there are -/
theorem above_le {x y : IS} {T r K a b : Nat} {w S : Nat → Nat} (h : w_di x y T r K w S) : w_ts (fun v => w_ts (fun l => w_t a b w (w_d T r K (y 5 101) S) v l) 8 0) 8 0 ≤ T ^ (2 * r + 1) := by
  have hG := fun v hv => w_G_le h (y 5 101) (v := v) hv
  obtain ⟨-, -, -, -, -, -, -, -, -, -, -, -, -, S0, S1, S8⟩ := id h
  -- the differences add up
  have tel : ∀ t v, v + t = 8 → w_G T r K (y 5 101) S v + w_ts (w_d T r K (y 5 101) S) t v = w_G T r K (y 5 101) S 8 := by
    intro t
    induction t with
    | zero => intro v hv; rw [show v = 8 by omega]; rfl
    | succ t ih =>
      intro v hv
      have h1 := hG v (by omega)
      have h2 := ih (v + 1) (by omega)
      have h3 : w_G T r K (y 5 101) S (v + 1) = w_F T r K (y 5 101) (S (v + 1)) := rfl
      show w_G T r K (y 5 101) S v + (w_d T r K (y 5 101) S v + w_ts (w_d T r K (y 5 101) S) t (v + 1)) = _
      unfold w_d at *
      omega
  have hsum : w_ts (w_d T r K (y 5 101) S) 8 0 = T ^ (2 * r) := by
    have := tel 8 0 (by omega)
    rw [show w_G T r K (y 5 101) S 0 = 0 from rfl, show w_G T r K (y 5 101) S 8 = w_F T r K (y 5 101) (S 8) from rfl, S8, w_F_T] at this
    omega
  have hws : ∀ t v, v + t = 8 → S v + w_ts w t v = S 8 := by
    intro t
    induction t with
    | zero => intro v hv; rw [show v = 8 by omega]; rfl
    | succ t ih =>
      intro v hv
      have h1 := S1 v (by omega)
      have h2 := ih (v + 1) (by omega)
      show S v + (w v + w_ts w t (v + 1)) = _
      omega
  have hw8 : w_ts w 8 0 = T := by
    have := hws 8 0 (by omega)
    rw [S0, S8] at this
    omega
  have h1 : w_ts (fun v => w_ts (fun l => w_t a b w (w_d T r K (y 5 101) S) v l) 8 0) 8 0 ≤ w_ts (fun v => w v * T ^ (2 * r)) 8 0 := by
    refine w_ts_le 8 0 (fun v _ _ => ?_)
    have h2 : w_ts (fun l => w_t a b w (w_d T r K (y 5 101) S) v l) 8 0 ≤ w_ts (fun l => w_d T r K (y 5 101) S l * w v) 8 0 := by
      refine w_ts_le 8 0 (fun l _ _ => ?_)
      unfold w_t
      split
      · rw [Nat.mul_comm]; exact Nat.le_refl _
      · exact Nat.zero_le _
    rw [w_ts_mul, hsum, Nat.mul_comm] at h2
    exact h2
  rw [w_ts_mul, hw8] at h1
  rw [Nat.pow_succ, Nat.mul_comm (T ^ (2 * r)) T]
  exact h1
end
