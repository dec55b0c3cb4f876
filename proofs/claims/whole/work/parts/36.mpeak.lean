section
theorem firstL {n : Nat} {f : Nat → Int32} {b : Nat} (hb : b < w_bs (w_al n f) n) (k : Int32 → IS → Option (Int32 × IS)) : ∀ (t fuel m : Nat) (y : IS), m + t = n → t + 1 < fuel → w_vm n y → y 5 = f → w_bs (w_al n f) m ≤ b → ∃ (s : Nat) (y' : IS), f_X7_firstOf_L4 (iI b) k fuel (iI ((w_bs (w_al n f) m : Int) - 1)) (iI ((m : Int) - 1)) y = k (iI s) y' ∧ (∀ c, c ≠ 13 → c ≠ 14 → y' c = y c) ∧ s < n ∧ w_al n f s = true ∧ (s = 0 ∨ w_al n f (s - 1) = false) ∧ w_bs (w_al n f) s = b := by
  intro t
  induction t with
  | zero =>
    intro fuel m y h1 h2 hv hf hm
    obtain rfl : m = n := by omega
    omega
  | succ t ih =>
    intro fuel m y h1 h2 hv hf hm
    obtain ⟨fuel, rfl⟩ : ∃ z, fuel = z + 1 := ⟨fuel - 1, by omega⟩
    have n2 := hv.2.1
    have hbn := w_bs_le (w_al n f) n
    have hmn := w_bs_le (w_al n f) m
    obtain ⟨y1, e1, p1⟩ := isAlarm_s hv (show m < n by omega)
    obtain ⟨hv1, hf1⟩ := w_vm_5 hv p1
    rw [hf] at e1
    -- go on without a start
    have no : ∀ z : IS, w_bs (w_al n f) (m + 1) = w_bs (w_al n f) m → (∀ c, c ≠ 13 → c ≠ 14 → z c = y c) → ∃ (s : Nat) (y' : IS), f_X7_firstOf_L4 (iI b) k fuel (iI ((w_bs (w_al n f) m : Int) - 1) + 0) (iI (m : Int)) z = k (iI s) y' ∧ (∀ c, c ≠ 13 → c ≠ 14 → y' c = y c) ∧ s < n ∧ w_al n f s = true ∧ (s = 0 ∨ w_al n f (s - 1) = false) ∧ w_bs (w_al n f) s = b := by
      intro z hbs hz
      obtain ⟨hvz, hfz⟩ := w_vm_5 hv hz
      obtain ⟨s, y2, e2, p2, q2⟩ := ih fuel (m + 1) z (by omega) (by omega) hvz (hfz.trans hf) (by omega)
      refine ⟨s, y2, ?_, fun c a b => (p2 c a b).trans (hz c a b), q2⟩
      rw [show ((m + 1 : Nat) : Int) - 1 = (m : Int) by omega, hbs] at e2
      rw [show (0 : Int32) = iI 0 from rfl, iI_add, Int.add_zero]
      exact e2
    have yes : ∀ z : IS, w_al n f m = true → (m = 0 ∨ w_al n f (m - 1) = false) → (∀ c, c ≠ 13 → c ≠ 14 → z c = y c) → ∃ (s : Nat) (y' : IS), f_X7_firstOf_L4 (iI b) k fuel (iI ((w_bs (w_al n f) m : Int) - 1) + 1) (iI (m : Int)) z = k (iI s) y' ∧ (∀ c, c ≠ 13 → c ≠ 14 → y' c = y c) ∧ s < n ∧ w_al n f s = true ∧ (s = 0 ∨ w_al n f (s - 1) = false) ∧ w_bs (w_al n f) s = b := by
      intro z ha hst hz
      obtain ⟨hvz, hfz⟩ := w_vm_5 hv hz
      have hbs := w_bs_yes ha hst
      rw [show (1 : Int32) = iI 1 from rfl, iI_add]
      by_cases hd : w_bs (w_al n f) (m + 1) ≤ b
      · obtain ⟨s, y2, e2, p2, q2⟩ := ih fuel (m + 1) z (by omega) (by omega) hvz (hfz.trans hf) hd
        refine ⟨s, y2, ?_, fun c a b => (p2 c a b).trans (hz c a b), q2⟩
        rw [show ((m + 1 : Nat) : Int) - 1 = (m : Int) by omega, hbs, show (((w_bs (w_al n f) m + 1 : Nat) : Int) - 1) = (w_bs (w_al n f) m : Int) - 1 + 1 by omega] at e2
        exact e2
      · obtain ⟨fuel, rfl⟩ : ∃ z, fuel = z + 1 := ⟨fuel - 1, by omega⟩
        refine ⟨m, z, ?_, hz, by omega, ha, hst, by omega⟩
        show f_X7_firstOf_L4F (iI b) k (f_X7_firstOf_L4 (iI b) k fuel) _ (iI (m : Int)) z = _
        unfold f_X7_firstOf_L4F
        rw [if_pos (by rw [iI_le (by omega) (by omega) (by omega) (by omega)]; omega)]
    show ∃ (s : Nat) (y' : IS), f_X7_firstOf_L4F (iI b) k (f_X7_firstOf_L4 (iI b) k fuel) (iI ((w_bs (w_al n f) m : Int) - 1)) (iI ((m : Int) - 1)) y = _ ∧ _
    unfold f_X7_firstOf_L4F
    rw [if_neg (by rw [iI_le (by omega) (by omega) (by omega) (by omega)]; omega), q_let_r]
    have em : iI ((m : Int) - 1) + 1 = iI (m : Int) := by rw [show (1 : Int32) = iI 1 from rfl, iI_add, Int.sub_add_cancel]
    rw [em, q_b2_s e1]
    simp only [q_jn_r, q_let_r]
    rw [if10]
    by_cases ha : w_al n f m = true
    · rw [if_pos ha]
      by_cases hi0 : m = 0
      · subst hi0
        rw [if_pos (show iI ((0 : Nat) : Int) = 0 from rfl)]
        exact yes y1 ha (Or.inl rfl) p1
      · rw [if_neg (by rw [show (0 : Int32) = iI 0 from rfl, iI_eq (by omega) (by omega) (by omega) (by omega)]; omega)]
        obtain ⟨y3, e3, p3⟩ := isAlarm_s hv1 (show m - 1 < n by omega)
        have p4 : ∀ c, c ≠ 13 → c ≠ 14 → y3 c = y c := fun c a b => (p3 c a b).trans (p1 c a b)
        rw [hf1, hf, show ((m - 1 : Nat) : Int) = (m : Int) - 1 by omega, ← iI_sub] at e3
        have e3' : f_X7_isAlarm y1 (iI (m : Int) - (1 : Int32)) = _ := e3
        rw [q_b2_s e3', if10]
        by_cases hb : w_al n f (m - 1) = true
        · rw [if_pos hb]
          exact no y3 (w_bs_no (Or.inr ⟨by omega, hb⟩)) p4
        · rw [if_neg hb]
          exact yes y3 ha (Or.inr (Bool.eq_false_iff.mpr hb)) p4
    · rw [if_neg ha]
      exact no y1 (w_bs_no (Or.inl (Bool.eq_false_iff.mpr ha))) p1
theorem lastL {n : Nat} {f : Nat → Int32} {s : Nat} (k : Int32 → IS → Option (Int32 × IS)) : ∀ (t fuel e : Nat) (y : IS), e + 1 + t = n → t < fuel → w_vm n y → y 5 = f → s ≤ e → (∀ k, s ≤ k → k ≤ e → w_al n f k = true) → ∃ (e' : Nat) (y' : IS), f_X7_lastFrom_L2 k fuel (iI e) y = k (iI e') y' ∧ (∀ c, c ≠ 13 → c ≠ 14 → y' c = y c) ∧ s ≤ e' ∧ e' < n ∧ (∀ k, s ≤ k → k ≤ e' → w_al n f k = true) ∧ (e' + 1 = n ∨ w_al n f (e' + 1) = false) := by
  intro t
  induction t with
  | zero =>
    intro fuel e y h1 h2 hv hf hs hal
    obtain ⟨fuel, rfl⟩ : ∃ z, fuel = z + 1 := ⟨fuel - 1, by omega⟩
    have n2 := hv.2.1
    refine ⟨e, y, ?_, fun _ _ _ => rfl, hs, by omega, hal, Or.inl (by omega)⟩
    show f_X7_lastFrom_L2F k (f_X7_lastFrom_L2 k fuel) (iI e) y = _
    simp (disch := omega) only [f_X7_lastFrom_L2F, hv.1, iI_lit, iI_neg, iI_lt, iI_le, iI_eq, iI_add, iI_sub, iI_mul, iI_cl, q_let_r, q_jn_r, q_b1_r, q_b2_r, q_b3_r, if_true, if_false, eq_self, q_gd_in, q_up_s, q_up_n, upd_s, upd_n, if_pos, if_neg]
  | succ t ih =>
    intro fuel e y h1 h2 hv hf hs hal
    obtain ⟨fuel, rfl⟩ : ∃ z, fuel = z + 1 := ⟨fuel - 1, by omega⟩
    have n2 := hv.2.1
    obtain ⟨y1, e1, p1⟩ := isAlarm_s hv (show e + 1 < n by omega)
    obtain ⟨hv1, hf1⟩ := w_vm_5 hv p1
    rw [hf] at e1
    show ∃ (e' : Nat) (y' : IS), f_X7_lastFrom_L2F k (f_X7_lastFrom_L2 k fuel) (iI e) y = _ ∧ _
    unfold f_X7_lastFrom_L2F
    have ee : iI (e : Int) + 1 = iI ((e + 1 : Nat) : Int) := iI_add _ 1
    rw [ee, hv.1, if_neg (by rw [iI_le (by omega) (by omega) (by omega) (by omega)]; omega), q_b2_s e1, if10, q_let_r]
    by_cases ha : w_al n f (e + 1) = true
    · rw [if_pos ha]
      obtain ⟨e', y2, e2, p2, q2⟩ := ih fuel (e + 1) y1 (by omega) (by omega) hv1 (hf1.trans hf) (by omega) (fun k a b => by
        by_cases hk : k = e + 1
        · rw [hk]; exact ha
        · exact hal k a (by omega))
      exact ⟨e', y2, e2, fun c a b => (p2 c a b).trans (p1 c a b), q2⟩
    · rw [if_neg ha]
      exact ⟨e, y1, rfl, p1, hs, by omega, hal, Or.inr (Bool.eq_false_iff.mpr ha)⟩
theorem peakL {f : Nat → Int32} {s e : Nat} (he : e < 48) (k : Int32 → IS → Option (Int32 × IS)) : ∀ (t fuel i q : Nat) (y : IS), i + t = e + 1 → t < fuel → y 5 = f → s ≤ i → s ≤ q → q ≤ e → (∀ k, s ≤ k → k < i → f k ≤ f q) → (∀ k, s ≤ k → k < q → f k < f q) → (q < i ∨ (i = s ∧ q = s)) → ∃ q' : Nat, f_X7_peak_L11 (iI e) k fuel (iI q) (iI i) y = k (iI q') y ∧ w_P f s e q' := by
  intro t
  induction t with
  | zero =>
    intro fuel i q y h1 h2 hf hs hq1 hq2 hA hB hC
    obtain ⟨fuel, rfl⟩ : ∃ z, fuel = z + 1 := ⟨fuel - 1, by omega⟩
    refine ⟨q, ?_, hq1, hq2, fun k a b => hA k a (by omega), hB⟩
    show f_X7_peak_L11F (iI e) k (f_X7_peak_L11 (iI e) k fuel) (iI q) (iI i) y = _
    simp (disch := omega) only [f_X7_peak_L11F, iI_lit, iI_neg, iI_lt, iI_le, iI_eq, iI_add, iI_sub, iI_mul, iI_cl, q_let_r, q_jn_r, q_b1_r, q_b2_r, q_b3_r, if_true, if_false, eq_self, q_gd_in, q_up_s, q_up_n, upd_s, upd_n, if_pos, if_neg]
  | succ t ih =>
    intro fuel i q y h1 h2 hf hs hq1 hq2 hA hB hC
    obtain ⟨fuel, rfl⟩ : ∃ z, fuel = z + 1 := ⟨fuel - 1, by omega⟩
    show ∃ q' : Nat, f_X7_peak_L11F (iI e) k (f_X7_peak_L11 (iI e) k fuel) (iI q) (iI i) y = _ ∧ _
    have hstep : f_X7_peak_L11F (iI e) k (f_X7_peak_L11 (iI e) k fuel) (iI q) (iI i) y = (if f i ≤ f q then f_X7_peak_L11 (iI e) k fuel (iI q) (iI ((i : Int) + 1)) y else f_X7_peak_L11 (iI e) k fuel (iI i) (iI ((i : Int) + 1)) y) := by
      simp (disch := omega) only [f_X7_peak_L11F, Int.toNat_natCast, hf, iI_lit, iI_neg, iI_lt, iI_le, iI_eq, iI_add, iI_sub, iI_mul, iI_cl, q_let_r, q_jn_r, q_b1_r, q_b2_r, q_b3_r, if_true, if_false, eq_self, q_gd_in, q_up_s, q_up_n, upd_s, upd_n, if_pos, if_neg]
    rw [hstep]
    by_cases hle : f i ≤ f q
    · rw [if_pos hle]
      exact ih fuel (i + 1) q y (by omega) (by omega) hf (by omega) hq1 hq2 (fun k a b => by
        by_cases hk : k = i
        · rw [hk]; exact hle
        · exact hA k a (by omega)) hB (by omega)
    · rw [if_neg hle]
      have hlt : f q < f i := Int32.not_le.mp hle
      have hlo : ∀ k, s ≤ k → k < i → f k < f i := fun k a b => Int32.lt_of_le_of_lt (hA k a b) hlt
      exact ih fuel (i + 1) i y (by omega) (by omega) hf (by omega) hs (by omega) (fun k a b => by
        by_cases hk : k = i
        · rw [hk]; exact Int32.le_refl _
        · exact Int32.le_of_lt (hlo k a (by omega))) hlo (by omega)
/-- the reference's b-th bunch -/
theorem first_s {n : Nat} {y : IS} (hv : w_vm n y) {b : Nat} (hb : b < w_bs (w_al n (y 5)) n) : ∃ (s e : Nat) (y' : IS), f_X7_firstOf y (iI b) = some (iI s, y') ∧ (∀ c, c ≠ 13 → c ≠ 14 → y' c = y c) ∧ s < n ∧ w_al n (y 5) s = true ∧ (s = 0 ∨ w_al n (y 5) (s - 1) = false) ∧ w_bs (w_al n (y 5)) s = b := by
  have n2 := hv.2.1
  obtain ⟨s, y', e, p, q⟩ := firstL hb (fun e3 x5 => some (e3, x5)) n 1000 0 y (by omega) (by omega) hv rfl (Nat.zero_le _)
  exact ⟨s, s, y', e, p, q⟩
theorem last_s {n : Nat} {y : IS} (hv : w_vm n y) {s : Nat} (hs : s < n) (ha : w_al n (y 5) s = true) : ∃ (e : Nat) (y' : IS), f_X7_lastFrom y (iI s) = some (iI e, y') ∧ (∀ c, c ≠ 13 → c ≠ 14 → y' c = y c) ∧ s ≤ e ∧ e < n ∧ (∀ k, s ≤ k → k ≤ e → w_al n (y 5) k = true) ∧ (e + 1 = n ∨ w_al n (y 5) (e + 1) = false) := by
  have n2 := hv.2.1
  exact lastL (s := s) (fun e2 x4 => some (e2, x4)) (n - s - 1) 1000 s y (by omega) (by omega) hv rfl (Nat.le_refl _) (fun k a b => by rw [show k = s by omega]; exact ha)
theorem peak_s {n : Nat} {y : IS} (hv : w_vm n y) {s : Nat} (hs : s < n) (ha : w_al n (y 5) s = true) : ∃ (e q : Nat) (y' : IS), f_X7_peak y (iI s) = some (iI q, y') ∧ (∀ c, c ≠ 13 → c ≠ 14 → y' c = y c) ∧ s ≤ e ∧ e < n ∧ (∀ k, s ≤ k → k ≤ e → w_al n (y 5) k = true) ∧ (e + 1 = n ∨ w_al n (y 5) (e + 1) = false) ∧ w_P (y 5) s e q := by
  have n2 := hv.2.1
  obtain ⟨e, y1, e1, p1, a1, a2, a3, a4⟩ := last_s hv hs ha
  obtain ⟨q, e2, hq⟩ := peakL (f := y 5) (s := s) (e := e) (by omega) (fun e7 x9 => some (e7, x9)) (e + 1 - s) 1000 s s y1 (by omega) (by omega) (p1 5 (by decide) (by decide)) (Nat.le_refl _) (Nat.le_refl _) a1 (fun k a b => by omega) (fun k a b => by omega) (Or.inr ⟨rfl, rfl⟩)
  refine ⟨e, q, y1, ?_, p1, a1, a2, a3, a4, hq⟩
  unfold f_X7_peak
  rw [q_b2_s e1]
  exact e2
end
