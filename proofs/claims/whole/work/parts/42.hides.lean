section
def w_hid (n : Nat) (f : Nat → Int32) (i k : Nat) : Bool := !(w_al n f k) && w_al n (upd f (48 + i) 1) k
theorem vw_wo {n : Nat} {x : IS} {f : Nat → Int32} (hv : w_vw n x f (-4)) {i : Nat} (hi : i < n) : w_vw n x (upd f (48 + i) 1) i := by
  obtain ⟨h13, n2, hV, hf, hk, h14, -, -⟩ := hv
  refine ⟨h13, n2, ?_, fun k hk => ⟨?_, ?_⟩, fun k hk' => ?_, ?_, by omega, by omega⟩
  · exact w_V_upd n2 hV (fun h => absurd h (by omega)) (fun _ _ => Or.inr rfl) (fun h => absurd h (by omega)) (fun h => absurd h (by omega))
  · by_cases h : k = i
    · subst h
      rw [upd_s]
      exact ⟨fun h => absurd h (by decide), fun h => absurd rfl h.2⟩
    · rw [upd_n _ _ (by omega)]
      rw [(hf k hk).1]
      exact ⟨fun h2 => ⟨h2.1, by omega⟩, fun h2 => ⟨h2.1, by omega⟩⟩
  · rw [upd_n _ _ (by omega)]; exact (hf k hk).2
  · rw [upd_n _ _ (by omega)]; exact hk k hk'
  · rw [upd_n _ _ (by omega)]; exact h14
theorem h17_s {n k : Nat} {x : IS} {f : Nat → Int32} (hn : n ≤ 48) (hk : k < n) (h : x 17 k = if w_al n f k = true then iI (w_bs (w_al n f) (k + 1) - 1) else -4) {β : Type} {a b : Option β} : (if x 17 k = (-4 : Int32) then a else b) = (if w_al n f k = true then b else a) := by
  by_cases ha : w_al n f k = true
  · rw [if_pos ha] at h
    have h1 := w_bs_pos (al := w_al n f) k ha
    have h2 := w_bs_le (w_al n f) (k + 1)
    rw [if_pos ha, h, if_neg (by rw [w_m4, iI_eq (by omega) (by omega) (by omega) (by omega)]; omega)]
  · rw [if_neg ha] at h
    rw [if_neg ha, h, if_pos rfl]
theorem hides1_s {n : Nat} {y : IS} (hm : w_vm n y) {i k : Nat} (hi : i < n) (hk : k < n) (h0 : y 5 (48 + i) = 0) : ∃ y', f_X7_hides1 y (iI i) (iI k) = some (if k ≠ i ∧ w_hid n (y 5) i k = true then iI 1 else iI 0, y') ∧ (∀ c, c ≠ 13 → c ≠ 14 → y' c = y c) := by
  have n2 := hm.2.1
  have t48 : ∀ k : Nat, k < 48 → ((48 : Int32) + iI (k : Int)).toNatClampNeg = 48 + k := fun k hk => by rw [show (48 : Int32) = iI 48 from rfl, iI_add, iI_cl (by omega) (by omega)]; omega
  have hin : ∀ k : Nat, k < 48 → q_in ((48 : Int32) + iI (k : Int)) 102 := fun k hk => by rw [show (48 : Int32) = iI 48 from rfl, iI_add]; exact iI_in (by omega) (by omega) (by omega)
  unfold f_X7_hides1
  by_cases hne : k = i
  · rw [hne, if_pos rfl]
    exact ⟨y, by rw [if_neg (fun h => h.1 rfl)]; rfl, fun _ _ _ => rfl⟩
  rw [if_neg (by rw [iI_eq (by omega) (by omega) (by omega) (by omega)]; omega), q_gd_t (hin k (by omega)), t48 k (by omega)]
  by_cases h1 : y 5 (48 + k) = 1
  · rw [if_pos h1]
    refine ⟨y, ?_, fun _ _ _ => rfl⟩
    rw [if_neg (fun h => ?_)]; rfl
    have h2 := h.2
    unfold w_hid at h2
    rw [Bool.and_eq_true] at h2
    have h3 := (of_decide_eq_true h2.2).1
    rw [upd_n _ _ (by omega), h1] at h3
    exact absurd h3 (by decide)
  · rw [if_neg h1]
    obtain ⟨y1, e1, p1⟩ := isAlarm_s hm hk
    rw [q_b2_s e1, if10]
    by_cases ha : w_al n (y 5) k = true
    · rw [if_pos ha]
      refine ⟨y1, ?_, p1⟩
      rw [if_neg (fun h => ?_)]; rfl
      have h2 := h.2
      unfold w_hid at h2
      rw [ha] at h2
      simp at h2
    · rw [if_neg ha, q_gd_t (hin i (by omega)), q_let_r]
      have y15 : y1 5 = y 5 := p1 5 (by decide) (by decide)
      have hz5 : q_up y1 5 (upd (y1 5) ((48 : Int32) + iI (i : Int)).toNatClampNeg 1) 5 = upd (y 5) (48 + i) 1 := by rw [q_up_s, y15, t48 i (by omega)]
      have hm1 : w_vm n (q_up y1 5 (upd (y1 5) ((48 : Int32) + iI (i : Int)).toNatClampNeg 1)) := by
        refine ⟨by rw [q_up_n _ _ (by decide), p1 2 (by decide) (by decide)]; exact hm.1, n2, ?_⟩
        rw [hz5]
        exact w_V_upd n2 hm.2.2 (fun h => absurd h (by omega)) (fun _ _ => Or.inr rfl) (fun h => absurd h (by omega)) (fun h => absurd h (by omega))
      obtain ⟨y2, e2, p2⟩ := isAlarm_s hm1 hk
      rw [hz5] at e2
      rw [q_b2_s e2, q_gd_t (hin i (by omega)), q_let_r, t48 i (by omega)]
      have y25 : y2 5 = upd (y 5) (48 + i) 1 := (p2 5 (by decide) (by decide)).trans hz5
      refine ⟨q_up y2 5 (upd (y2 5) (48 + i) 0), ?_, fun c a b => ?_⟩
      · unfold w_hid
        rw [Bool.eq_false_iff.mpr ha]
        by_cases hb : w_al n (upd (y 5) (48 + i) 1) k = true
        · rw [if_pos hb, if_pos ⟨hne, by rw [hb]; rfl⟩]
        · rw [if_neg hb, if_neg (fun h => hb (by have := h.2; rw [Bool.and_eq_true] at this; exact this.2))]
      · by_cases h5 : c = 5
        · rw [h5, q_up_s, y25, upd_upd, ← h0, upd_self]
        · rw [q_up_n _ _ h5, p2 c a b, q_up_n _ _ h5, p1 c a b]
def w_hc (n : Nat) (f : Nat → Int32) (i : Nat) : Nat → Nat
  | 0 => 0
  | k + 1 => w_hc n f i k + (if k ≠ i ∧ w_hid n f i k = true then 1 else 0)
theorem w_hc_le (n : Nat) (f : Nat → Int32) (i : Nat) : ∀ k, w_hc n f i k ≤ k
  | 0 => Nat.le_refl _
  | k + 1 => by
    have := w_hc_le n f i k
    show w_hc n f i k + _ ≤ _
    split <;> omega
/-- as w_hc, over the asked cells alone: all (b is -1), or cell b -/
def w_hj (n : Nat) (f : Nat → Int32) (i : Nat) (b : Int) : Nat → Nat
  | 0 => 0
  | k + 1 => w_hj n f i b k + (if (k ≠ i ∧ (b = -1 ∨ b = (k : Int))) ∧ w_hid n f i k = true then 1 else 0)
theorem w_hj_all (n : Nat) (f : Nat → Int32) (i : Nat) : ∀ k, w_hj n f i (-1) k = w_hc n f i k
  | 0 => rfl
  | k + 1 => by
    show w_hj n f i (-1) k + _ = w_hc n f i k + _
    rw [w_hj_all n f i k]
    by_cases h : k ≠ i ∧ w_hid n f i k = true
    · rw [if_pos h, if_pos ⟨⟨h.1, Or.inl rfl⟩, h.2⟩]
    · rw [if_neg h, if_neg (fun h2 => h ⟨h2.1.1, h2.2⟩)]
theorem w_hj_one (n : Nat) (f : Nat → Int32) (i b : Nat) (hb : b ≠ i) : ∀ k, w_hj n f i b k = if b < k ∧ w_hid n f i b = true then 1 else 0
  | 0 => by rw [if_neg (fun h => absurd h.1 (Nat.not_lt_zero _))]; rfl
  | k + 1 => by
    show w_hj n f i b k + _ = _
    rw [w_hj_one n f i b hb k]
    by_cases hk : b = k
    · subst hk
      rw [if_neg (show ¬ (b < b ∧ w_hid n f i b = true) from fun h => absurd h.1 (Nat.lt_irrefl _))]
      by_cases hh : w_hid n f i b = true
      · rw [if_pos ⟨⟨hb, Or.inr rfl⟩, hh⟩, if_pos ⟨Nat.lt_succ_self _, hh⟩]
      · rw [if_neg (fun h => hh h.2), if_neg (fun h => hh h.2)]
    · rw [if_neg (show ¬ ((k ≠ i ∧ ((b : Int) = -1 ∨ (b : Int) = (k : Int))) ∧ w_hid n f i k = true) from fun h => by have := h.1.2; omega)]
      by_cases hh : b < k ∧ w_hid n f i b = true
      · rw [if_pos hh, if_pos ⟨by have := hh.1; omega, hh.2⟩]
      · rw [if_neg hh, if_neg (fun h => hh ⟨by have := h.1; omega, h.2⟩)]
theorem hidesF {n : Nat} {x : IS} {f : Nat → Int32} {i k : Nat} {b : Int} (hv : w_vw n x f (-4)) (h17 : ∀ k, k < n → x 17 k = if w_al n f k = true then iI (w_bs (w_al n f) (k + 1) - 1) else -4) (hi : i < n) (hk : k < n) (hb1 : -1 ≤ b) (hb2 : b < n) (kk : Int32 → IS → Option (Int32 × IS)) (go : Int32 → Int32 → IS → Option (Int32 × IS)) (v : Int32) : ∃ x', f_X6_hides_L84F (iI i) (iI b) kk go v (iI k) x = go (if (k ≠ i ∧ (b = -1 ∨ b = (k : Int))) ∧ w_hid n f i k = true then v + 1 else v) (iI ((k : Int) + 1)) x' ∧ (∀ c, c ≠ 11 → c ≠ 12 → x' c = x c) := by
  have n2 := hv.2.1
  by_cases hq : k ≠ i ∧ (b = -1 ∨ b = (k : Int))
  · have hne := hq.1
    have e : f_X6_hides_L84F (iI i) (iI b) kk go v (iI k) x = (if x 17 k = (-4 : Int32) then q_b2 (f_X3_alarmsWithout x (iI k) (iI i)) (fun r x' => if r = (0 : Int32) then go v (iI ((k : Int) + 1)) x' else go (v + 1) (iI ((k : Int) + 1)) x') else go v (iI ((k : Int) + 1)) x) := by
      rcases hq.2 with h | h
      · subst h
        simp (disch := omega) only [f_X6_hides_L84F, hv.1, Int.toNat_natCast, iI_lit, iI_neg, iI_lt, iI_le, iI_eq, iI_add, iI_sub, iI_mul, iI_cl, q_let_r, q_jn_r, q_b1_r, q_b2_r, q_b3_r, if_true, if_false, eq_self, q_gd_in, q_up_s, q_up_n, upd_s, upd_n, if_pos, if_neg]
      · subst h
        simp (disch := omega) only [f_X6_hides_L84F, hv.1, Int.toNat_natCast, iI_lit, iI_neg, iI_lt, iI_le, iI_eq, iI_add, iI_sub, iI_mul, iI_cl, q_let_r, q_jn_r, q_b1_r, q_b2_r, q_b3_r, if_true, if_false, eq_self, q_gd_in, q_up_s, q_up_n, upd_s, upd_n, if_pos, if_neg]
    rw [e, h17_s n2 hk (h17 k hk)]
    by_cases ha : w_al n f k = true
    · refine ⟨x, ?_, fun _ _ _ => rfl⟩
      rw [if_pos ha, if_neg (fun h => ?_)]
      have h2 := h.2
      unfold w_hid at h2
      rw [ha] at h2
      simp at h2
    · obtain ⟨x1, e1, p1⟩ := alarms_s (vw_wo hv hi) hk (by omega)
      refine ⟨x1, ?_, p1⟩
      rw [if_neg ha, q_b2_s e1, if10]
      by_cases hb : w_al n (upd f (48 + i) 1) k = true
      · rw [if_pos hb, if_pos ⟨hq, by unfold w_hid; rw [hb, Bool.eq_false_iff.mpr ha]; rfl⟩]
      · rw [if_neg hb, if_neg (fun h => hb (by have h2 := h.2; unfold w_hid at h2; rw [Bool.and_eq_true] at h2; exact h2.2))]
  · refine ⟨x, ?_, fun _ _ _ => rfl⟩
    rw [if_neg (fun h => hq h.1)]
    by_cases h : k = i
    · subst h
      simp (disch := omega) only [f_X6_hides_L84F, hv.1, Int.toNat_natCast, iI_lit, iI_neg, iI_lt, iI_le, iI_eq, iI_add, iI_sub, iI_mul, iI_cl, q_let_r, q_jn_r, q_b1_r, q_b2_r, q_b3_r, if_true, if_false, eq_self, q_gd_in, q_up_s, q_up_n, upd_s, upd_n, if_pos, if_neg]
    · have h3 : b ≠ -1 ∧ b ≠ (k : Int) := by omega
      obtain ⟨h4, h5⟩ := h3
      simp (disch := omega) only [f_X6_hides_L84F, hv.1, Int.toNat_natCast, iI_lit, iI_neg, iI_lt, iI_le, iI_eq, iI_add, iI_sub, iI_mul, iI_cl, q_let_r, q_jn_r, q_b1_r, q_b2_r, q_b3_r, if_true, if_false, eq_self, q_gd_in, q_up_s, q_up_n, upd_s, upd_n, if_pos, if_neg]
theorem hidesL {n : Nat} {f : Nat → Int32} {i : Nat} {b : Int} (hi : i < n) (hb1 : -1 ≤ b) (hb2 : b < n) (kk : Int32 → IS → Option (Int32 × IS)) : ∀ (t fuel k : Nat) (x : IS), k + t = n → t < fuel → w_vw n x f (-4) → (∀ k, k < n → x 17 k = if w_al n f k = true then iI (w_bs (w_al n f) (k + 1) - 1) else -4) → ∃ x', f_X6_hides_L84 (iI i) (iI b) kk fuel (iI (w_hj n f i b k)) (iI k) x = kk (iI (w_hj n f i b n)) x' ∧ (∀ c, c ≠ 11 → c ≠ 12 → x' c = x c) := by
  intro t
  induction t with
  | zero =>
    intro fuel k x h1 h2 hv h17
    obtain ⟨fuel, rfl⟩ : ∃ z, fuel = z + 1 := ⟨fuel - 1, by omega⟩
    obtain rfl : k = n := by omega
    refine ⟨x, ?_, fun _ _ _ => rfl⟩
    have := hv.2.1
    show f_X6_hides_L84F (iI i) (iI b) kk (f_X6_hides_L84 (iI i) (iI b) kk fuel) _ (iI k) x = _
    unfold f_X6_hides_L84F
    rw [hv.1, if_pos (Int32.le_refl _)]
  | succ t ih =>
    intro fuel k x h1 h2 hv h17
    obtain ⟨fuel, rfl⟩ : ∃ z, fuel = z + 1 := ⟨fuel - 1, by omega⟩
    obtain ⟨x1, e1, p1⟩ := hidesF hv h17 hi (show k < n by omega) hb1 hb2 kk (f_X6_hides_L84 (iI i) (iI b) kk fuel) (iI (w_hj n f i b k))
    obtain ⟨x', e, p⟩ := ih fuel (k + 1) x1 (by omega) (by omega) (w_vw_c hv p1) (fun c hc => by rw [p1 17 (by decide) (by decide)]; exact h17 c hc)
    refine ⟨x', ?_, fun c a b => (p c a b).trans (p1 c a b)⟩
    show f_X6_hides_L84F (iI i) (iI b) kk (f_X6_hides_L84 (iI i) (iI b) kk fuel) _ (iI k) x = _
    rw [e1]
    have hca : w_hj n f i b (k + 1) = w_hj n f i b k + (if (k ≠ i ∧ (b = -1 ∨ b = (k : Int))) ∧ w_hid n f i k = true then 1 else 0) := rfl
    by_cases hh : (k ≠ i ∧ (b = -1 ∨ b = (k : Int))) ∧ w_hid n f i k = true
    · rw [if_pos hh]
      rw [hca, if_pos hh] at e
      rw [show iI (w_hj n f i b k : Int) + 1 = iI ((w_hj n f i b k + 1 : Nat) : Int) from iI_add _ 1]
      exact e
    · rw [if_neg hh]
      rw [hca, if_neg hh] at e
      exact e
theorem hidesM {n : Nat} {f : Nat → Int32} {i : Nat} (hi : i < n) (h0 : f (48 + i) = 0) (kk : Int32 → IS → Option (Int32 × IS)) : ∀ (t fuel k : Nat) (y : IS), k + t = n → t < fuel → w_vm n y → y 5 = f → ∃ y', f_X7_hides_L75 (iI i) (iI (-1)) kk fuel (iI (w_hc n f i k)) (iI k) y = kk (iI (w_hc n f i n)) y' ∧ (∀ c, c ≠ 13 → c ≠ 14 → y' c = y c) := by
  intro t
  induction t with
  | zero =>
    intro fuel k x h1 h2 hv hf
    obtain ⟨fuel, rfl⟩ : ∃ z, fuel = z + 1 := ⟨fuel - 1, by omega⟩
    obtain rfl : k = n := by omega
    refine ⟨x, ?_, fun _ _ _ => rfl⟩
    have := hv.2.1
    show f_X7_hides_L75F (iI i) (iI (-1)) kk (f_X7_hides_L75 (iI i) (iI (-1)) kk fuel) _ (iI k) x = _
    simp (disch := omega) only [f_X7_hides_L75F, hv.1, iI_lit, iI_neg, iI_lt, iI_le, iI_eq, iI_add, iI_sub, iI_mul, iI_cl, q_let_r, q_jn_r, q_b1_r, q_b2_r, q_b3_r, if_true, if_false, eq_self, q_gd_in, q_up_s, q_up_n, upd_s, upd_n, if_pos, if_neg]
  | succ t ih =>
    intro fuel k x h1 h2 hv hf
    obtain ⟨fuel, rfl⟩ : ∃ z, fuel = z + 1 := ⟨fuel - 1, by omega⟩
    have n2 := hv.2.1
    have hca : w_hc n f i (k + 1) = w_hc n f i k + (if k ≠ i ∧ w_hid n f i k = true then 1 else 0) := rfl
    obtain ⟨x1, e1, p1⟩ := hides1_s hv hi (show k < n by omega) (by rw [hf]; exact h0)
    obtain ⟨hv1, hf1⟩ := w_vm_5 hv p1
    obtain ⟨x', e, p⟩ := ih fuel (k + 1) x1 (by omega) (by omega) hv1 (hf1.trans hf)
    refine ⟨x', ?_, fun c a b => (p c a b).trans (p1 c a b)⟩
    rw [hf] at e1
    show f_X7_hides_L75F (iI i) (iI (-1)) kk (f_X7_hides_L75 (iI i) (iI (-1)) kk fuel) _ (iI k) x = _
    unfold f_X7_hides_L75F
    simp only [q_jn_r, q_let_r]
    rw [if_neg (by decide), hv.1, if_neg (by rw [iI_le (by omega) (by omega) (by omega) (by omega)]; omega), q_b2_s e1, if10]
    rw [show iI (k : Int) + 1 = iI ((k + 1 : Nat) : Int) from iI_add _ 1]
    by_cases hh : k ≠ i ∧ w_hid n f i k = true
    · rw [if_pos hh]
      rw [hca, if_pos hh] at e
      rw [show iI (w_hc n f i k : Int) + 1 = iI ((w_hc n f i k + 1 : Nat) : Int) from iI_add _ 1]
      exact e
    · rw [if_neg hh]
      rw [hca, if_neg hh] at e
      rw [show iI (w_hc n f i k : Int) + 0 = iI ((w_hc n f i k + 0 : Nat) : Int) from iI_add _ 0]
      exact e
theorem qt_hides : qs_hides q_I := by
  intro x j y hI a1 a2
  obtain ⟨ht, n, hr, hp, hd, hc⟩ := id hI
  obtain ⟨n1, n2, x13, y2, hV, hw⟩ := id hr
  obtain ⟨hv, hm⟩ := vw_of hr
  obtain ⟨a, ha1, ha2, rfl⟩ := iI_of a1
  obtain ⟨b, hb1, hb2, rfl⟩ := iI_of a2
  by_cases hc1 : a < 0 ∨ n ≤ a
  · exact ⟨iI (-1), x, y, by simp (disch := omega) only [f_X6_hides, has_f x13 n2 hc1, iI_lit, iI_neg, iI_lt, iI_le, iI_eq, iI_add, iI_sub, iI_mul, iI_cl, q_let_r, q_jn_r, q_b1_r, q_b2_r, q_b3_r, if_true, if_false, eq_self, q_gd_in, q_up_s, q_up_n, upd_s, upd_n, if_pos, if_neg], by simp (disch := omega) only [f_X7_hides, isCell_f y2 n2 hc1, iI_lit, iI_neg, iI_lt, iI_le, iI_eq, iI_add, iI_sub, iI_mul, iI_cl, q_let_r, q_jn_r, q_b1_r, q_b2_r, q_b3_r, if_true, if_false, eq_self, q_gd_in, q_up_s, q_up_n, upd_s, upd_n, if_pos, if_neg], hI⟩
  obtain ⟨i, rfl⟩ : ∃ i : Nat, a = i := ⟨a.toNat, by omega⟩
  have hin : i < n := by omega
  have tk : (i : Int).toNat = i := Int.toNat_natCast i
  have t48 : (48 + (i : Int)).toNat = 48 + i := by omega
  have e9 : ∀ k, k < n → x 9 k = y 5 (48 + k) := fun k hk => by rw [← hw (48 + k) (Or.inr (Or.inl ⟨by omega, by omega⟩)), w_row_l x (by omega)]
  by_cases hc2 : b < -1 ∨ n ≤ b
  · refine ⟨iI (-1), x, y, ?_, by simp (disch := omega) only [f_X7_hides, isCell_t y2 n2, y2, isIn_f, iI_lit, iI_neg, iI_lt, iI_le, iI_eq, iI_add, iI_sub, iI_mul, iI_cl, q_let_r, q_jn_r, q_b1_r, q_b2_r, q_b3_r, if_true, if_false, eq_self, q_gd_in, q_up_s, q_up_n, upd_s, upd_n, if_pos, if_neg], hI⟩
    simp (disch := omega) only [f_X6_hides, has_t x13 n2, has_f (a := b) x13 n2 (by omega) hb1 hb2, iI_lit, iI_neg, iI_lt, iI_le, iI_eq, iI_add, iI_sub, iI_mul, iI_cl, q_let_r, q_jn_r, q_b1_r, q_b2_r, q_b3_r, if_true, if_false, eq_self, q_gd_in, q_up_s, q_up_n, upd_s, upd_n, if_pos, if_neg]
  by_cases hc3 : (i : Int) = b
  · subst hc3
    refine ⟨iI (-1), x, y, ?_, ?_, hI⟩
    · simp (disch := omega) only [f_X6_hides, has_t x13 n2, iI_lit, iI_neg, iI_lt, iI_le, iI_eq, iI_add, iI_sub, iI_mul, iI_cl, q_let_r, q_jn_r, q_b1_r, q_b2_r, q_b3_r, if_true, if_false, eq_self, q_gd_in, q_up_s, q_up_n, upd_s, upd_n, if_pos, if_neg]
    · simp (disch := omega) only [f_X7_hides, isCell_t y2 n2, y2, isIn_t, iI_lit, iI_neg, iI_lt, iI_le, iI_eq, iI_add, iI_sub, iI_mul, iI_cl, q_let_r, q_jn_r, q_b1_r, q_b2_r, q_b3_r, if_true, if_false, eq_self, q_gd_in, q_up_s, q_up_n, upd_s, upd_n, if_pos, if_neg]
  by_cases hl : y 5 (48 + i) = iI 1
  · refine ⟨iI (-2), x, y, ?_, ?_, hI⟩
    · by_cases hbm : b = -1
      · subst hbm
        simp (disch := omega) only [f_X6_hides, has_t x13 n2, tk, e9, hl, iI_lit, iI_neg, iI_lt, iI_le, iI_eq, iI_add, iI_sub, iI_mul, iI_cl, q_let_r, q_jn_r, q_b1_r, q_b2_r, q_b3_r, if_true, if_false, eq_self, q_gd_in, q_up_s, q_up_n, upd_s, upd_n, if_pos, if_neg]
      · simp (disch := omega) only [f_X6_hides, has_t x13 n2, tk, e9, hl, iI_lit, iI_neg, iI_lt, iI_le, iI_eq, iI_add, iI_sub, iI_mul, iI_cl, q_let_r, q_jn_r, q_b1_r, q_b2_r, q_b3_r, if_true, if_false, eq_self, q_gd_in, q_up_s, q_up_n, upd_s, upd_n, if_pos, if_neg]
    · simp (disch := omega) only [f_X7_hides, isCell_t y2 n2, y2, isIn_t, t48, hl, iI_lit, iI_neg, iI_lt, iI_le, iI_eq, iI_add, iI_sub, iI_mul, iI_cl, q_let_r, q_jn_r, q_b1_r, q_b2_r, q_b3_r, if_true, if_false, eq_self, q_gd_in, q_up_s, q_up_n, upd_s, upd_n, if_pos, if_neg]
  have h0 : y 5 (48 + i) = 0 := (hV.2.1 i hin).resolve_right hl
  obtain ⟨xs, es, ps, hIs, hrs, hcs, hC⟩ := settleI (j := j) ht hr hp hd hc
  have hvs := (vw_of hrs).1
  by_cases hbm : b = -1
  · subst hbm
    obtain ⟨x1, e1, p1⟩ := hidesL (f := y 5) (b := -1) hin (by omega) (by omega) (fun e20 x22 => some (e20, x22)) n 1000 0 xs (by omega) (by omega) hvs hC.2.1
    rw [w_hj_all n (y 5) i n] at e1
    obtain ⟨y1, e2, p2⟩ := hidesM hin h0 (fun e19 x21 => some (e19, x21)) n 1000 0 y (by omega) (by omega) hm rfl
    refine ⟨iI (w_hc n (y 5) i n), x1, y1, ?_, ?_, q_I_scr hIs p1 (y_scr p2)⟩
    · simp (disch := omega) only [f_X6_hides, has_t x13 n2, tk, e9, hl, q_b1_s es, iI_lit, iI_neg, iI_lt, iI_le, iI_eq, iI_add, iI_sub, iI_mul, iI_cl, q_let_r, q_jn_r, q_b1_r, q_b2_r, q_b3_r, if_true, if_false, eq_self, q_gd_in, q_up_s, q_up_n, upd_s, upd_n, if_pos, if_neg]
      exact e1
    · simp (disch := omega) only [f_X7_hides, isCell_t y2 n2, y2, isIn_t, t48, hl, iI_lit, iI_neg, iI_lt, iI_le, iI_eq, iI_add, iI_sub, iI_mul, iI_cl, q_let_r, q_jn_r, q_b1_r, q_b2_r, q_b3_r, if_true, if_false, eq_self, q_gd_in, q_up_s, q_up_n, upd_s, upd_n, if_pos, if_neg]
      exact e2
  obtain ⟨k, rfl⟩ : ∃ k : Nat, b = k := ⟨b.toNat, by omega⟩
  have hkn : k < n := by omega
  have tk2 : (k : Int).toNat = k := Int.toNat_natCast k
  have t482 : (48 + (k : Int)).toNat = 48 + k := by omega
  by_cases hl2 : y 5 (48 + k) = iI 1
  · refine ⟨iI (-2), x, y, ?_, ?_, hI⟩
    · simp (disch := omega) only [f_X6_hides, has_t x13 n2, tk, tk2, e9, hl, hl2, iI_lit, iI_neg, iI_lt, iI_le, iI_eq, iI_add, iI_sub, iI_mul, iI_cl, q_let_r, q_jn_r, q_b1_r, q_b2_r, q_b3_r, if_true, if_false, eq_self, q_gd_in, q_up_s, q_up_n, upd_s, upd_n, if_pos, if_neg]
    · simp (disch := omega) only [f_X7_hides, isCell_t y2 n2, y2, isIn_t, t48, t482, hl, hl2, iI_lit, iI_neg, iI_lt, iI_le, iI_eq, iI_add, iI_sub, iI_mul, iI_cl, q_let_r, q_jn_r, q_b1_r, q_b2_r, q_b3_r, if_true, if_false, eq_self, q_gd_in, q_up_s, q_up_n, upd_s, upd_n, if_pos, if_neg]
  obtain ⟨x1, e1, p1⟩ := hidesL (f := y 5) (b := (k : Int)) hin (by omega) (by omega) (fun e20 x22 => some (e20, x22)) n 1000 0 xs (by omega) (by omega) hvs hC.2.1
  rw [w_hj_one n (y 5) i k (by omega) n] at e1
  obtain ⟨y1, e2, p2⟩ := hides1_s hm hin hkn h0
  obtain ⟨hm1, hf1⟩ := w_vm_5 hm p2
  -- the reference's loop over this one cell
  have hM : f_X7_hides_L75 (iI i) (iI k) (fun e19 x21 => some (e19, x21)) 1000 (iI 0) (iI k) y = some (if k ≠ i ∧ w_hid n (y 5) i k = true then iI 1 else iI 0, y1) := by
    have s2 : ∀ v : Int32, f_X7_hides_L75 (iI i) (iI k) (fun e19 x21 => some (e19, x21)) 999 v (iI ((k : Int) + 1)) y1 = some (v, y1) := by
      intro v
      show f_X7_hides_L75F (iI i) (iI k) (fun e19 x21 => some (e19, x21)) (f_X7_hides_L75 (iI i) (iI k) (fun e19 x21 => some (e19, x21)) 998) v (iI ((k : Int) + 1)) y1 = _
      simp (disch := omega) only [f_X7_hides_L75F, iI_lit, iI_neg, iI_lt, iI_le, iI_eq, iI_add, iI_sub, iI_mul, iI_cl, q_let_r, q_jn_r, q_b1_r, q_b2_r, q_b3_r, if_true, if_false, eq_self, q_gd_in, q_up_s, q_up_n, upd_s, upd_n, if_pos, if_neg]
    show f_X7_hides_L75F (iI i) (iI k) (fun e19 x21 => some (e19, x21)) (f_X7_hides_L75 (iI i) (iI k) (fun e19 x21 => some (e19, x21)) 999) (iI 0) (iI k) y = _
    unfold f_X7_hides_L75F
    simp only [q_jn_r, q_let_r]
    rw [if_pos (by rw [show (0 : Int32) = iI 0 from rfl, iI_le (by omega) (by omega) (by omega) (by omega)]; omega), show iI (k : Int) + 1 = iI ((k : Int) + 1) from iI_add _ 1, if_neg (by rw [iI_le (by omega) (by omega) (by omega) (by omega)]; omega), q_b2_s e2, if10]
    by_cases hh : k ≠ i ∧ w_hid n (y 5) i k = true
    · rw [if_pos hh, if_pos hh]; exact s2 _
    · rw [if_neg hh, if_neg hh]; exact s2 _
  have hki : k ≠ i := by omega
  by_cases hh : w_hid n (y 5) i k = true
  · rw [if_pos ⟨hkn, hh⟩] at e1
    rw [if_pos ⟨hki, hh⟩] at hM
    refine ⟨iI 1, x1, y1, ?_, ?_, q_I_scr hIs p1 (y_scr p2)⟩
    · simp (disch := omega) only [f_X6_hides, has_t x13 n2, tk, tk2, e9, hl, hl2, q_b1_s es, iI_lit, iI_neg, iI_lt, iI_le, iI_eq, iI_add, iI_sub, iI_mul, iI_cl, q_let_r, q_jn_r, q_b1_r, q_b2_r, q_b3_r, if_true, if_false, eq_self, q_gd_in, q_up_s, q_up_n, upd_s, upd_n, if_pos, if_neg]
      exact e1
    · simp (disch := omega) only [f_X7_hides, isCell_t y2 n2, y2, isIn_t, t48, t482, hl, hl2, iI_lit, iI_neg, iI_lt, iI_le, iI_eq, iI_add, iI_sub, iI_mul, iI_cl, q_let_r, q_jn_r, q_b1_r, q_b2_r, q_b3_r, if_true, if_false, eq_self, q_gd_in, q_up_s, q_up_n, upd_s, upd_n, if_pos, if_neg]
      exact hM
  · rw [if_neg (fun h => hh h.2)] at e1
    rw [if_neg (fun h => hh h.2)] at hM
    refine ⟨iI 0, x1, y1, ?_, ?_, q_I_scr hIs p1 (y_scr p2)⟩
    · simp (disch := omega) only [f_X6_hides, has_t x13 n2, tk, tk2, e9, hl, hl2, q_b1_s es, iI_lit, iI_neg, iI_lt, iI_le, iI_eq, iI_add, iI_sub, iI_mul, iI_cl, q_let_r, q_jn_r, q_b1_r, q_b2_r, q_b3_r, if_true, if_false, eq_self, q_gd_in, q_up_s, q_up_n, upd_s, upd_n, if_pos, if_neg]
      exact e1
    · simp (disch := omega) only [f_X7_hides, isCell_t y2 n2, y2, isIn_t, t48, t482, hl, hl2, iI_lit, iI_neg, iI_lt, iI_le, iI_eq, iI_add, iI_sub, iI_mul, iI_cl, q_let_r, q_jn_r, q_b1_r, q_b2_r, q_b3_r, if_true, if_false, eq_self, q_gd_in, q_up_s, q_up_n, upd_s, upd_n, if_pos, if_neg]
      exact hM
end
