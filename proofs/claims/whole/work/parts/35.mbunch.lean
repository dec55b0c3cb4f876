section
theorem w_vm_5 {n : Nat} {y y' : IS} (h : w_vm n y) (hy : ∀ c, c ≠ 13 → c ≠ 14 → y' c = y c) : w_vm n y' ∧ y' 5 = y 5 := ⟨w_vm_c h hy, hy 5 (by decide) (by decide)⟩
theorem if10 {c : Prop} [Decidable c] {β : Type} {a b : Option β} : (if (if c then iI 1 else iI 0) = (0 : Int32) then a else b) = (if c then b else a) := by
  by_cases h : c
  · rw [if_pos h, if_pos h, if_neg (by decide)]
  · rw [if_neg h, if_neg h, if_pos (show iI 0 = 0 from rfl)]
theorem alarmsL {n : Nat} {f : Nat → Int32} (k : Int32 → IS → Option (Int32 × IS)) : ∀ (t fuel i : Nat) (y : IS), i + t = n → t < fuel → w_vm n y → y 5 = f → ∃ y', f_X7_alarms_L4 k fuel (iI (w_ca (w_al n f) i)) (iI i) y = k (iI (w_ca (w_al n f) n)) y' ∧ (∀ c, c ≠ 13 → c ≠ 14 → y' c = y c) := by
  intro t
  induction t with
  | zero =>
    intro fuel i y h1 h2 hv hf
    obtain ⟨fuel, rfl⟩ : ∃ z, fuel = z + 1 := ⟨fuel - 1, by omega⟩
    obtain rfl : i = n := by omega
    refine ⟨y, ?_, fun _ _ _ => rfl⟩
    show f_X7_alarms_L4F k (f_X7_alarms_L4 k fuel) _ (iI i) y = _
    have := hv.2.1
    simp (disch := omega) only [f_X7_alarms_L4F, hv.1, iI_lit, iI_neg, iI_lt, iI_le, iI_eq, iI_add, iI_sub, iI_mul, iI_cl, q_let_r, q_jn_r, q_b1_r, q_b2_r, q_b3_r, if_true, if_false, eq_self, q_gd_in, q_up_s, q_up_n, upd_s, upd_n, if_pos, if_neg]
  | succ t ih =>
    intro fuel i y h1 h2 hv hf
    obtain ⟨fuel, rfl⟩ : ∃ z, fuel = z + 1 := ⟨fuel - 1, by omega⟩
    have n2 := hv.2.1
    obtain ⟨y1, e1, p1⟩ := isAlarm_s hv (show i < n by omega)
    obtain ⟨hv1, hf1⟩ := w_vm_5 hv p1
    obtain ⟨y2, e2, p2⟩ := ih fuel (i + 1) y1 (by omega) (by omega) hv1 (hf1.trans hf)
    refine ⟨y2, ?_, fun c a b => (p2 c a b).trans (p1 c a b)⟩
    show f_X7_alarms_L4F k (f_X7_alarms_L4 k fuel) _ (iI i) y = _
    rw [hf] at e1
    have hca : w_ca (w_al n f) (i + 1) = w_ca (w_al n f) i + (if w_al n f i = true then 1 else 0) := rfl
    unfold f_X7_alarms_L4F
    rw [hv.1, if_neg (by simp (disch := omega) only [iI_lit, iI_neg, iI_lt, iI_le, iI_eq, iI_add, iI_sub, iI_mul, iI_cl, q_let_r, q_jn_r, q_b1_r, q_b2_r, q_b3_r, if_true, if_false, eq_self, q_gd_in, q_up_s, q_up_n, upd_s, upd_n]; omega), q_b2_s e1]
    simp only [q_jn_r, q_let_r]
    rw [if10]
    by_cases ha : w_al n f i = true
    · rw [if_pos ha] at hca ⊢
      rw [hca] at e2
      simp (disch := omega) only [iI_lit, iI_neg, iI_lt, iI_le, iI_eq, iI_add, iI_sub, iI_mul, iI_cl, q_let_r, q_jn_r, q_b1_r, q_b2_r, q_b3_r, if_true, if_false, eq_self, q_gd_in, q_up_s, q_up_n, upd_s, upd_n, if_pos, if_neg]
      exact e2
    · rw [if_neg ha] at hca ⊢
      rw [hca] at e2
      simp (disch := omega) only [Int.add_zero, iI_lit, iI_neg, iI_lt, iI_le, iI_eq, iI_add, iI_sub, iI_mul, iI_cl, q_let_r, q_jn_r, q_b1_r, q_b2_r, q_b3_r, if_true, if_false, eq_self, q_gd_in, q_up_s, q_up_n, upd_s, upd_n, if_pos, if_neg]
      exact e2
theorem alarmsm_s {n : Nat} {y : IS} (hv : w_vm n y) : ∃ y', f_X7_alarms y = some (iI (w_ca (w_al n (y 5)) n), y') ∧ (∀ c, c ≠ 13 → c ≠ 14 → y' c = y c) := by
  have n2 := hv.2.1
  exact alarmsL (fun e3 x5 => some (e3, x5)) n 1000 0 y (by omega) (by omega) hv rfl
theorem bunchesL {n : Nat} {f : Nat → Int32} (k : Int32 → IS → Option (Int32 × IS)) : ∀ (t fuel i : Nat) (y : IS), i + t = n → t < fuel → w_vm n y → y 5 = f → ∃ y', f_X7_bunches_L4 k fuel (iI (w_bs (w_al n f) i)) (iI i) y = k (iI (w_bs (w_al n f) n)) y' ∧ (∀ c, c ≠ 13 → c ≠ 14 → y' c = y c) := by
  intro t
  induction t with
  | zero =>
    intro fuel i y h1 h2 hv hf
    obtain ⟨fuel, rfl⟩ : ∃ z, fuel = z + 1 := ⟨fuel - 1, by omega⟩
    obtain rfl : i = n := by omega
    refine ⟨y, ?_, fun _ _ _ => rfl⟩
    show f_X7_bunches_L4F k (f_X7_bunches_L4 k fuel) _ (iI i) y = _
    have := hv.2.1
    simp (disch := omega) only [f_X7_bunches_L4F, hv.1, iI_lit, iI_neg, iI_lt, iI_le, iI_eq, iI_add, iI_sub, iI_mul, iI_cl, q_let_r, q_jn_r, q_b1_r, q_b2_r, q_b3_r, if_true, if_false, eq_self, q_gd_in, q_up_s, q_up_n, upd_s, upd_n, if_pos, if_neg]
  | succ t ih =>
    intro fuel i y h1 h2 hv hf
    obtain ⟨fuel, rfl⟩ : ∃ z, fuel = z + 1 := ⟨fuel - 1, by omega⟩
    have n2 := hv.2.1
    obtain ⟨y1, e1, p1⟩ := isAlarm_s hv (show i < n by omega)
    obtain ⟨hv1, hf1⟩ := w_vm_5 hv p1
    rw [hf] at e1
    have hgo : ∀ (z : IS) (b : Nat), w_bs (w_al n f) (i + 1) = w_bs (w_al n f) i + b → (∀ c, c ≠ 13 → c ≠ 14 → z c = y c) → ∃ y', f_X7_bunches_L4 k fuel (iI (w_bs (w_al n f) i) + iI b) (iI (i : Int) + 1) z = k (iI (w_bs (w_al n f) n)) y' ∧ (∀ c, c ≠ 13 → c ≠ 14 → y' c = y c) := by
      intro z b hb hz
      obtain ⟨hvz, hfz⟩ := w_vm_5 hv hz
      obtain ⟨y2, e2, p2⟩ := ih fuel (i + 1) z (by omega) (by omega) hvz (hfz.trans hf)
      rw [hb] at e2
      refine ⟨y2, ?_, fun c a b => (p2 c a b).trans (hz c a b)⟩
      rw [iI_add, show iI (i : Int) + 1 = iI ((i : Int) + 1) from iI_add _ 1]
      exact e2
    have hstep : ∀ r : Option (Int32 × IS), f_X7_bunches_L4F k (f_X7_bunches_L4 k fuel) (iI (w_bs (w_al n f) i)) (iI i) y = r ↔ (if w_al n f i = true then (if iI (i : Int) = 0 then f_X7_bunches_L4 k fuel (iI (w_bs (w_al n f) i) + 1) (iI (i : Int) + 1) y1 else q_b2 (f_X7_isAlarm y1 (iI (i : Int) - 1)) fun r13 x14 => if r13 = 0 then f_X7_bunches_L4 k fuel (iI (w_bs (w_al n f) i) + 1) (iI (i : Int) + 1) x14 else f_X7_bunches_L4 k fuel (iI (w_bs (w_al n f) i) + 0) (iI (i : Int) + 1) x14) else f_X7_bunches_L4 k fuel (iI (w_bs (w_al n f) i) + 0) (iI (i : Int) + 1) y1) = r := by
      intro r
      unfold f_X7_bunches_L4F
      rw [hv.1, if_neg (by simp (disch := omega) only [iI_lit, iI_neg, iI_lt, iI_le, iI_eq, iI_add, iI_sub, iI_mul, iI_cl, q_let_r, q_jn_r, q_b1_r, q_b2_r, q_b3_r, if_true, if_false, eq_self, q_gd_in, q_up_s, q_up_n, upd_s, upd_n]; omega), q_b2_s e1]
      simp only [q_jn_r, q_let_r]
      rw [if10]
    show ∃ y', f_X7_bunches_L4F k (f_X7_bunches_L4 k fuel) (iI (w_bs (w_al n f) i)) (iI i) y = _ ∧ _
    simp only [hstep]
    by_cases ha : w_al n f i = true
    · rw [if_pos ha]
      by_cases hi0 : i = 0
      · subst hi0
        rw [if_pos (show iI ((0 : Nat) : Int) = 0 from rfl)]
        exact hgo y1 1 (w_bs_yes ha (Or.inl rfl)) p1
      · rw [if_neg (by rw [show (0 : Int32) = iI 0 from rfl, iI_eq (by omega) (by omega) (by omega) (by omega)]; omega)]
        obtain ⟨y3, e3, p3⟩ := isAlarm_s hv1 (show i - 1 < n by omega)
        have p4 : ∀ c, c ≠ 13 → c ≠ 14 → y3 c = y c := fun c a b => (p3 c a b).trans (p1 c a b)
        rw [hf1, hf, show ((i - 1 : Nat) : Int) = (i : Int) - 1 by omega, ← iI_sub] at e3
        have e3' : f_X7_isAlarm y1 (iI (i : Int) - (1 : Int32)) = _ := e3
        rw [q_b2_s e3', if10]
        by_cases hb : w_al n f (i - 1) = true
        · rw [if_pos hb]
          exact hgo y3 0 (w_bs_no (Or.inr ⟨by omega, hb⟩)) p4
        · rw [if_neg hb]
          exact hgo y3 1 (w_bs_yes ha (Or.inr (Bool.eq_false_iff.mpr hb))) p4
    · rw [if_neg ha]
      exact hgo y1 0 (w_bs_no (Or.inl (Bool.eq_false_iff.mpr ha))) p1
theorem bunchesm_s {n : Nat} {y : IS} (hv : w_vm n y) : ∃ y', f_X7_bunches y = some (iI (w_bs (w_al n (y 5)) n), y') ∧ (∀ c, c ≠ 13 → c ≠ 14 → y' c = y c) := by
  have n2 := hv.2.1
  exact bunchesL (fun e3 x5 => some (e3, x5)) n 1000 0 y (by omega) (by omega) hv rfl
theorem bunToL {n : Nat} {f : Nat → Int32} {i : Nat} (hi : i < n) (k : Int32 → IS → Option (Int32 × IS)) : ∀ (t fuel m v : Nat) (y : IS), 1 ≤ m → m + t = i + 1 → t < fuel → w_vm n y → y 5 = f → v + (if w_al n f (m - 1) = true then 1 else 0) = w_bs (w_al n f) m → ∃ (y' : IS) (v' : Nat), f_X7_bunchesTo_L4 (iI i) k fuel (iI v) (iI m) y = k (iI v') y' ∧ (∀ c, c ≠ 13 → c ≠ 14 → y' c = y c) ∧ v' + (if w_al n f i = true then 1 else 0) = w_bs (w_al n f) (i + 1) := by
  intro t
  induction t with
  | zero =>
    intro fuel m v y h0 h1 h2 hv hf hb
    obtain ⟨fuel, rfl⟩ : ∃ z, fuel = z + 1 := ⟨fuel - 1, by omega⟩
    obtain rfl : m = i + 1 := by omega
    refine ⟨y, v, ?_, fun _ _ _ => rfl, hb⟩
    show f_X7_bunchesTo_L4F (iI i) k (f_X7_bunchesTo_L4 (iI i) k fuel) (iI v) (iI ((i + 1 : Nat) : Int)) y = _
    have := hv.2.1
    simp (disch := omega) only [f_X7_bunchesTo_L4F, hv.1, iI_lit, iI_neg, iI_lt, iI_le, iI_eq, iI_add, iI_sub, iI_mul, iI_cl, q_let_r, q_jn_r, q_b1_r, q_b2_r, q_b3_r, if_true, if_false, eq_self, q_gd_in, q_up_s, q_up_n, upd_s, upd_n, if_pos, if_neg]
  | succ t ih =>
    intro fuel m v y h0 h1 h2 hv hf hb
    obtain ⟨fuel, rfl⟩ : ∃ z, fuel = z + 1 := ⟨fuel - 1, by omega⟩
    have n2 := hv.2.1
    obtain ⟨y1, e1, p1⟩ := isAlarm_s hv (show m - 1 < n by omega)
    obtain ⟨hv1, hf1⟩ := w_vm_5 hv p1
    rw [hf, show ((m - 1 : Nat) : Int) = (m : Int) - 1 by omega, ← iI_sub] at e1
    have hgo : ∀ (z : IS) (b : Nat), v + b + (if w_al n f m = true then 1 else 0) = w_bs (w_al n f) (m + 1) → (∀ c, c ≠ 13 → c ≠ 14 → z c = y c) → ∃ (y' : IS) (v' : Nat), f_X7_bunchesTo_L4 (iI i) k fuel (iI v + iI b) (iI (m : Int) + 1) z = k (iI v') y' ∧ (∀ c, c ≠ 13 → c ≠ 14 → y' c = y c) ∧ v' + (if w_al n f i = true then 1 else 0) = w_bs (w_al n f) (i + 1) := by
      intro z b hb hz
      obtain ⟨hvz, hfz⟩ := w_vm_5 hv hz
      obtain ⟨y2, v2, e2, p2, q2⟩ := ih fuel (m + 1) (v + b) z (by omega) (by omega) (by omega) hvz (hfz.trans hf) (by rw [Nat.add_sub_cancel]; exact hb)
      refine ⟨y2, v2, ?_, fun c a b => (p2 c a b).trans (hz c a b), q2⟩
      rw [iI_add, show iI (m : Int) + 1 = iI ((m : Int) + 1) from iI_add _ 1]
      exact e2
    show ∃ (y' : IS) (v' : Nat), f_X7_bunchesTo_L4F (iI i) k (f_X7_bunchesTo_L4 (iI i) k fuel) (iI v) (iI m) y = _ ∧ _
    unfold f_X7_bunchesTo_L4F
    rw [if_neg (by simp (disch := omega) only [iI_lit, iI_neg, iI_lt, iI_le, iI_eq, iI_add, iI_sub, iI_mul, iI_cl, q_let_r, q_jn_r, q_b1_r, q_b2_r, q_b3_r, if_true, if_false, eq_self, q_gd_in, q_up_s, q_up_n, upd_s, upd_n]; omega)]
    have e1' : f_X7_isAlarm y (iI (m : Int) - (1 : Int32)) = _ := e1
    rw [q_b2_s e1']
    simp only [q_jn_r, q_let_r]
    rw [if10]
    by_cases ha : w_al n f (m - 1) = true
    · rw [if_pos ha] at hb ⊢
      obtain ⟨y3, e3, p3⟩ := isAlarm_s hv1 (show m < n by omega)
      have p4 : ∀ c, c ≠ 13 → c ≠ 14 → y3 c = y c := fun c a b => (p3 c a b).trans (p1 c a b)
      rw [hf1, hf] at e3
      rw [q_b2_s e3, if10]
      have hbs : w_bs (w_al n f) (m + 1) = w_bs (w_al n f) m := w_bs_no (Or.inr ⟨by omega, ha⟩)
      by_cases hc : w_al n f m = true
      · rw [if_pos hc]
        exact hgo y3 0 (by rw [if_pos hc, hbs]; omega) p4
      · rw [if_neg hc]
        exact hgo y3 1 (by rw [if_neg hc, hbs]; omega) p4
    · rw [if_neg ha] at hb ⊢
      refine hgo y1 0 ?_ p1
      by_cases hc : w_al n f m = true
      · rw [if_pos hc, w_bs_yes hc (Or.inr (Bool.eq_false_iff.mpr ha))]; omega
      · rw [if_neg hc, w_bs_no (Or.inl (Bool.eq_false_iff.mpr hc))]; omega
theorem bunTo_s {n : Nat} {y : IS} (hv : w_vm n y) {i : Nat} (hi : i < n) (ha : w_al n (y 5) i = true) : ∃ y', f_X7_bunchesTo y (iI i) = some (iI ((w_bs (w_al n (y 5)) (i + 1) : Int) - 1), y') ∧ (∀ c, c ≠ 13 → c ≠ 14 → y' c = y c) := by
  have n2 := hv.2.1
  obtain ⟨y', v, e, p, q⟩ := bunToL hi (fun e3 x5 => some (e3, x5)) i 1000 1 0 y (by omega) (by omega) (by omega) hv rfl (by
    show 0 + _ = w_bs (w_al n (y 5)) 0 + _
    by_cases h : w_al n (y 5) 0 = true
    · rw [if_pos h, if_pos ⟨h, Or.inl rfl⟩]; rfl
    · rw [if_neg h, if_neg (fun h2 => h h2.1)]; rfl)
  rw [if_pos ha] at q
  refine ⟨y', ?_, p⟩
  rw [show ((w_bs (w_al n (y 5)) (i + 1) : Int) - 1) = (v : Int) by omega]
  exact e
end
