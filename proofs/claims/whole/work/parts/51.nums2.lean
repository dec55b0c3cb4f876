section
theorem ns_step {L : Nat → Int} {len : Nat} {y : IS} (h : w_ly L len y) (K : Int32 → Int32 → IS → Option (Int32 × IS)) {p m : Nat} {s : Int} (hv : 0 ≤ w_nv L p) (hv2 : w_nv L p ≤ 16) (hm : m < 8) :
    ∃ y3 : IS, (∀ fuel, f_X7_readsNoise_L10 K (fuel + 1) (iI p) (iI s) (iI m) 1 y = f_X7_readsNoise_L10 K fuel (iI ((w_ne L p + 1 : Nat) : Int)) (iI (s + w_nv L p)) (iI ((m + 1 : Nat) : Int)) (if L (w_ne L p) = 44 then 1 else 0) y3) ∧ y3 12 0 = iI (w_ne L p) ∧ y3 11 = upd (y 11) m (iI (w_nv L p)) ∧ ∀ k, k ≠ 11 → k ≠ 12 → y3 k = y k := by
  have hin := w_nv_in h hv
  have hl := h.1
  have hr := w_ne_rg L p
  obtain ⟨y1, e1, e12, fr⟩ := num_s h (p := p) (by omega)
  generalize hy3 : q_up y1 11 (upd (y1 11) m (iI (w_nv L p))) = y3
  have y3l : w_ly L len y3 := w_ly_k h (by rw [← hy3, q_up_n _ _ (by decide), fr _ (by decide)]) (by rw [← hy3, q_up_n _ _ (by decide), fr _ (by decide)])
  have y312 : y3 12 0 = iI (w_ne L p) := by rw [← hy3, q_up_n _ _ (by decide)]; exact e12
  have aa := lAt y3l (p := w_ne L p) (by omega)
  have hra := h.2.2.1 (w_ne L p)
  have ei : f_X7_isIn (iI (w_nv L p)) (iI 0) (iI 16) = some (iI 1) := isIn_t hv hv2 (by omega) (by omega)
  refine ⟨y3, fun fuel => ?_, y312, ?_, fun k k1 k2 => ?_⟩
  · show f_X7_readsNoise_L10F K (f_X7_readsNoise_L10 K fuel) (iI p) (iI s) (iI m) 1 y = _
    unfold f_X7_readsNoise_L10F
    rw [if_neg (by decide)]
    refine (q_b2_s e1).trans ?_
    by_cases hcm : L (w_ne L p) = 44
    · simp (disch := omega) only [ei, Int.toNat_natCast, hy3, e12, y312, aa, hcm, iI_lit, iI_neg, iI_lt, iI_le, iI_eq, iI_add, iI_sub, iI_mul, iI_cl, q_let_r, q_jn_r, q_b1_r, q_b2_r, q_b3_r, if_true, if_false, eq_self, q_gd_in, q_up_s, q_up_n, upd_s, upd_n, if_pos, if_neg]
      rfl
    · simp (disch := omega) only [ei, Int.toNat_natCast, hy3, e12, y312, aa, hcm, iI_lit, iI_neg, iI_lt, iI_le, iI_eq, iI_add, iI_sub, iI_mul, iI_cl, q_let_r, q_jn_r, q_b1_r, q_b2_r, q_b3_r, if_true, if_false, eq_self, q_gd_in, q_up_s, q_up_n, upd_s, upd_n, if_pos, if_neg]
      rfl
  · rw [← hy3, q_up_s, fr 11 (by decide)]
  · rw [← hy3, q_up_n _ _ k1, fr _ k2]
theorem ns_bad {L : Nat → Int} {len : Nat} {y : IS} (h : w_ly L len y) (K : Int32 → Int32 → IS → Option (Int32 × IS)) {p m : Nat} {s : Int} (hp : p ≤ 900) (hm : m ≤ 8) (hb : (w_nv L p < 0 ∨ 16 < w_nv L p) ∨ m = 8) :
    ∃ y3 : IS, (∀ fuel, f_X7_readsNoise_L10 K (fuel + 1) (iI p) (iI s) (iI m) 1 y = some (0, y3)) ∧ ∀ k, k < 8 → y3 k = y k := by
  have hlo := w_nv_lo L p
  have hh := w_nv_hi L p
  obtain ⟨y1, e1, e12, fr⟩ := num_s h (p := p) (by omega)
  refine ⟨y1, fun fuel => ?_, fun k hk => fr k (by omega)⟩
  show f_X7_readsNoise_L10F K (f_X7_readsNoise_L10 K fuel) (iI p) (iI s) (iI m) 1 y = _
  unfold f_X7_readsNoise_L10F
  rw [if_neg (by decide)]
  refine (q_b2_s e1).trans ?_
  by_cases hn : w_nv L p < 0 ∨ 16 < w_nv L p
  · have ei : f_X7_isIn (iI (w_nv L p)) (iI 0) (iI 16) = some (iI 0) := isIn_f hn (by omega) (by omega) (by omega) (by omega) (by omega) (by omega)
    simp (disch := omega) only [ei, iI_lit, iI_neg, iI_lt, iI_le, iI_eq, iI_add, iI_sub, iI_mul, iI_cl, q_let_r, q_jn_r, q_b1_r, q_b2_r, q_b3_r, if_true, if_false, eq_self, q_gd_in, q_up_s, q_up_n, upd_s, upd_n, if_pos, if_neg]
  · have hm' : m = 8 := by omega
    subst hm'
    have ei : f_X7_isIn (iI (w_nv L p)) (iI 0) (iI 16) = some (iI 1) := isIn_t (by omega) (by omega) (by omega) (by omega)
    simp (disch := omega) only [ei, iI_lit, iI_neg, iI_lt, iI_le, iI_eq, iI_add, iI_sub, iI_mul, iI_cl, q_let_r, q_jn_r, q_b1_r, q_b2_r, q_b3_r, if_true, if_false, eq_self, q_gd_in, q_up_s, q_up_n, upd_s, upd_n, if_pos, if_neg]
theorem nsA {L : Nat → Int} {len : Nat} (K : Int32 → Int32 → IS → Option (Int32 × IS)) : ∀ (l : List Int) (fuel p e m : Nat) (s : Int) (y : IS), w_ly L len y → w_N L l p e → m + l.length ≤ 8 → 0 ≤ s → s + w_ls l ≤ 16 → l.length < fuel →
    ∃ y' : IS, f_X7_readsNoise_L10 K fuel (iI p) (iI s) (iI m) 1 y = K (iI (s + w_ls l)) (iI ((m + l.length : Nat) : Int)) y' ∧ y' 12 0 = iI e ∧ (∀ i, i < l.length → y' 11 (m + i) = iI (l.getD i 0)) ∧ (∀ i, i < m → y' 11 i = y 11 i) ∧ ∀ k, k ≠ 11 → k ≠ 12 → y' k = y k := by
  intro l
  induction l with
  | nil => intro fuel p e m s y _ h; exact absurd h id
  | cons v l ih =>
    intro fuel p e m s y h hN h8 hs hs2 hf
    obtain ⟨-, -, hls, -, -⟩ := w_N_no _ _ _ hN
    obtain ⟨h1, h2, h3⟩ := hN
    subst h1
    simp only [List.length_cons] at h8 hf ⊢
    have hs2 : s + (w_nv L p + w_ls l) ≤ 16 := hs2
    obtain ⟨fuel, rfl⟩ : ∃ z, fuel = z + 1 := ⟨fuel - 1, by omega⟩
    rcases h3 with ⟨h4, h5, h6⟩ | ⟨h4, h5⟩
    · subst h4 h5
      have hs2 : s + (w_nv L p + 0) ≤ 16 := hs2
      obtain ⟨y3, st, s12, s11, sf⟩ := ns_step h K (s := s) h2 (by omega) (m := m) (by omega)
      obtain ⟨fuel, rfl⟩ : ∃ z, fuel = z + 1 := ⟨fuel - 1, by simp at hf; omega⟩
      refine ⟨y3, ?_, s12, fun i hi => ?_, fun i hi => ?_, sf⟩
      · rw [st, if_neg h6]
        show K _ _ _ = K (iI (s + (w_nv L p + 0))) _ _
        rw [show s + (w_nv L p + 0) = s + w_nv L p by omega]
        rfl
      · obtain rfl : i = 0 := by simp at hi; omega
        rw [s11]; exact upd_s _ _ _
      · rw [s11]; exact upd_n _ _ (by omega)
    · obtain ⟨-, -, hls', -, -⟩ := w_N_no _ _ _ h5
      obtain ⟨y3, st, s12, s11, sf⟩ := ns_step h K (s := s) h2 (by omega) (m := m) (by omega)
      obtain ⟨y', e', a12, a11, a11', af⟩ := ih fuel _ e (m + 1) (s + w_nv L p) y3 (w_ly_k h (sf 0 (by decide) (by decide)) (sf 1 (by decide) (by decide))) h5 (by omega) (by omega) (by omega) (by omega)
      refine ⟨y', ?_, a12, fun i hi => ?_, fun i hi => ?_, fun k k1 k2 => (af k k1 k2).trans (sf k k1 k2)⟩
      · rw [st, if_pos h4]
        refine e'.trans ?_
        show K _ _ _ = K (iI (s + (w_nv L p + w_ls l))) _ _
        rw [show s + w_nv L p + w_ls l = s + (w_nv L p + w_ls l) by omega, show m + 1 + l.length = m + (l.length + 1) by omega]
      · cases i with
        | zero => rw [a11' _ (by omega), s11]; exact upd_s _ _ _
        | succ i =>
          have := a11 i (by omega)
          rw [show m + (i + 1) = m + 1 + i by omega]
          exact this
      · rw [a11' i (by omega), s11]; exact upd_n _ _ (by omega)
theorem nsB {L : Nat → Int} {len : Nat} (K : Int32 → Int32 → IS → Option (Int32 × IS)) : ∀ (t fuel p m : Nat) (s : Int) (y : IS), w_ly L len y → 201 ≤ p + t → t + 1 < fuel → p ≤ 900 → m ≤ 8 → 0 ≤ s → s ≤ 16 * m → (∀ l e, w_N L l p e → ¬ (L e = 59 ∧ m + l.length ≤ 8 ∧ 2 ≤ m + l.length ∧ 1 ≤ s + w_ls l ∧ s + w_ls l ≤ 16)) →
    ∃ y' : IS, (∀ k, k < 8 → y' k = y k) ∧ (f_X7_readsNoise_L10 K fuel (iI p) (iI s) (iI m) 1 y = some (0, y') ∨ ∃ (s' : Int) (m' e : Nat), f_X7_readsNoise_L10 K fuel (iI p) (iI s) (iI m) 1 y = K (iI s') (iI m') y' ∧ 0 ≤ s' ∧ s' ≤ 200 ∧ m' ≤ 8 ∧ e ≤ 900 ∧ y' 12 0 = iI e ∧ ¬ (L e = 59 ∧ 2 ≤ m' ∧ 1 ≤ s' ∧ s' ≤ 16)) := by
  intro t
  induction t with
  | zero =>
    intro fuel p m s y h ht hf hp hm hs hs2 _
    obtain ⟨fuel, rfl⟩ : ∃ z, fuel = z + 1 := ⟨fuel - 1, by omega⟩
    have hl := h.1
    obtain ⟨y3, st, sf⟩ := ns_bad h K (s := s) hp hm (Or.inl (Or.inl (by have := h.2.2.2.2 p (by omega); unfold w_nv; rw [if_neg (by omega)]; omega)))
    exact ⟨y3, sf, Or.inl (st fuel)⟩
  | succ t ih =>
    intro fuel p m s y h ht hf hp hm hs hs2 hN
    obtain ⟨fuel, rfl⟩ : ∃ z, fuel = z + 1 := ⟨fuel - 1, by omega⟩
    have hl := h.1
    by_cases hb : (w_nv L p < 0 ∨ 16 < w_nv L p) ∨ m = 8
    · obtain ⟨y3, st, sf⟩ := ns_bad h K (s := s) hp hm hb
      exact ⟨y3, sf, Or.inl (st fuel)⟩
    · have hv : 0 ≤ w_nv L p := by omega
      have hin := w_nv_in h hv
      have lt := w_ne_lt hv
      have hr := w_ne_rg L p
      obtain ⟨y3, st, s12, s11, sf⟩ := ns_step h K (s := s) hv (by omega) (m := m) (by omega)
      by_cases hcm : L (w_ne L p) = 44
      · obtain ⟨y', a1, a2⟩ := ih fuel (w_ne L p + 1) (m + 1) (s + w_nv L p) y3 (w_ly_k h (sf 0 (by decide) (by decide)) (sf 1 (by decide) (by decide))) (by omega) (by omega) (by omega) (by omega) (by omega) (by omega) (fun l e hl2 hh => hN _ e (w_N_more hv hcm hl2) ⟨hh.1, by simp only [List.length_cons]; omega, by simp only [List.length_cons]; omega, by show 1 ≤ s + (w_nv L p + w_ls l); omega, by show s + (w_nv L p + w_ls l) ≤ 16; omega⟩)
        refine ⟨y', fun k hk => (a1 k hk).trans (sf k (by omega) (by omega)), ?_⟩
        rw [st, if_pos hcm]; exact a2
      · refine ⟨y3, fun k hk => sf k (by omega) (by omega), Or.inr ⟨s + w_nv L p, m + 1, w_ne L p, ?_, by omega, by omega, by omega, by omega, s12, fun hh => hN _ _ (w_N_one hv hcm) ⟨hh.1, by simp only [List.length_cons, List.length_nil]; omega, by simp only [List.length_cons, List.length_nil]; omega, by show 1 ≤ s + (w_nv L p + 0); omega, by show s + (w_nv L p + 0) ≤ 16; omega⟩⟩⟩
        obtain ⟨fuel, rfl⟩ : ∃ z, fuel = z + 1 := ⟨fuel - 1, by omega⟩
        rw [st, if_neg hcm]; rfl
/-! the look -/
theorem lk_step {L : Nat → Int} {len : Nat} {y : IS} (h : w_ly L len y) (K : IS → Option (Int32 × IS)) {p k : Nat} (hk : k < 5) (hv : w_lo k ≤ w_nv L p) (hv2 : w_nv L p ≤ w_hi k) (hcm : k = 4 ∨ L (w_ne L p) = 44) :
    ∃ y3 : IS, (∀ fuel, f_X7_readsLook_L4 K (fuel + 1) (iI p) (iI k) y = f_X7_readsLook_L4 K fuel (iI ((w_ne L p + 1 : Nat) : Int)) (iI ((k + 1 : Nat) : Int)) y3) ∧ y3 12 0 = iI (w_ne L p) ∧ y3 10 = upd (y 10) (96 + k) (iI (w_nv L p)) ∧ ∀ c, c ≠ 10 → c ≠ 12 → y3 c = y c := by
  have b1 := w_lo_b k hk
  have b2 := w_hi_b k hk
  have hin := w_nv_in h (p := p) (by omega)
  have hl := h.1
  have hr := w_ne_rg L p
  obtain ⟨y1, e1, e12, fr⟩ := num_s h (p := p) (by omega)
  have y1l : w_ly L len y1 := w_ly_k h (fr _ (by decide)) (fr _ (by decide))
  have aa := lAt y1l (p := w_ne L p) (by omega)
  have tn : (96 + (k : Int)).toNat = 96 + k := by omega
  generalize hy3 : q_up y1 10 (upd (y1 10) (96 + k) (iI (w_nv L p))) = y3
  have y312 : y3 12 0 = iI (w_ne L p) := by rw [← hy3, q_up_n _ _ (by decide)]; exact e12
  have hra := h.2.2.1 (w_ne L p)
  have ei : f_X7_isIn (iI (w_nv L p)) (iI (w_lo k)) (iI (w_hi k)) = some (iI 1) := isIn_t hv hv2 (by omega) (by omega)
  have l1 := least_s k hk
  have l2 := most_s k hk
  refine ⟨y3, fun fuel => ?_, y312, ?_, fun c k1 k2 => ?_⟩
  · show f_X7_readsLook_L4F K (f_X7_readsLook_L4 K fuel) (iI p) (iI k) y = _
    unfold f_X7_readsLook_L4F
    rw [if_neg (by rw [show (5 : Int32) = iI 5 from rfl, iI_le (by omega) (by omega) (by omega) (by omega)]; omega)]
    refine (q_b2_s e1).trans ?_
    by_cases h4 : k = 4
    · subst h4
      simp (disch := omega) only [l1, l2, ei, tn, hy3, y312, iI_lit, iI_neg, iI_lt, iI_le, iI_eq, iI_add, iI_sub, iI_mul, iI_cl, q_let_r, q_jn_r, q_b1_r, q_b2_r, q_b3_r, if_true, if_false, eq_self, q_gd_in, q_up_s, q_up_n, upd_s, upd_n, if_pos, if_neg]
      rfl
    · have hcm : L (w_ne L p) = 44 := by omega
      simp (disch := omega) only [l1, l2, ei, tn, hy3, e12, y312, aa, hcm, iI_lit, iI_neg, iI_lt, iI_le, iI_eq, iI_add, iI_sub, iI_mul, iI_cl, q_let_r, q_jn_r, q_b1_r, q_b2_r, q_b3_r, if_true, if_false, eq_self, q_gd_in, q_up_s, q_up_n, upd_s, upd_n, if_pos, if_neg]
      rfl
  · rw [← hy3, q_up_s, fr 10 (by decide)]
  · rw [← hy3, q_up_n _ _ k1, fr _ k2]
theorem lk_bad {L : Nat → Int} {len : Nat} {y : IS} (h : w_ly L len y) (K : IS → Option (Int32 × IS)) {p k : Nat} (hp : p ≤ 900) (hk : k < 5) (hb : (w_nv L p < w_lo k ∨ w_hi k < w_nv L p) ∨ (k < 4 ∧ L (w_ne L p) ≠ 44)) :
    ∃ y3 : IS, (∀ fuel, f_X7_readsLook_L4 K (fuel + 1) (iI p) (iI k) y = some (0, y3)) ∧ ∀ c, c < 8 → y3 c = y c := by
  have b1 := w_lo_b k hk
  have b2 := w_hi_b k hk
  have hlo := w_nv_lo L p
  have hh := w_nv_hi L p
  have hr := w_ne_rg L p
  obtain ⟨y1, e1, e12, fr⟩ := num_s h (p := p) (by omega)
  have y1l : w_ly L len y1 := w_ly_k h (fr _ (by decide)) (fr _ (by decide))
  have aa := lAt y1l (p := w_ne L p) (by omega)
  have hra := h.2.2.1 (w_ne L p)
  have l1 := least_s k hk
  have l2 := most_s k hk
  refine ⟨y1, fun fuel => ?_, fun c hc => fr c (by omega)⟩
  show f_X7_readsLook_L4F K (f_X7_readsLook_L4 K fuel) (iI p) (iI k) y = _
  unfold f_X7_readsLook_L4F
  rw [if_neg (by rw [show (5 : Int32) = iI 5 from rfl, iI_le (by omega) (by omega) (by omega) (by omega)]; omega)]
  refine (q_b2_s e1).trans ?_
  by_cases hn : w_nv L p < w_lo k ∨ w_hi k < w_nv L p
  · have ei : f_X7_isIn (iI (w_nv L p)) (iI (w_lo k)) (iI (w_hi k)) = some (iI 0) := isIn_f hn (by omega) (by omega) (by omega) (by omega) (by omega) (by omega)
    simp (disch := omega) only [l1, l2, ei, iI_lit, iI_neg, iI_lt, iI_le, iI_eq, iI_add, iI_sub, iI_mul, iI_cl, q_let_r, q_jn_r, q_b1_r, q_b2_r, q_b3_r, if_true, if_false, eq_self, q_gd_in, q_up_s, q_up_n, upd_s, upd_n, if_pos, if_neg]
  · have ei : f_X7_isIn (iI (w_nv L p)) (iI (w_lo k)) (iI (w_hi k)) = some (iI 1) := isIn_t (by omega) (by omega) (by omega) (by omega)
    have hc4 : k < 4 := by omega
    have hcm : L (w_ne L p) ≠ 44 := by omega
    simp (disch := omega) only [l1, l2, ei, e12, aa, iI_lit, iI_neg, iI_lt, iI_le, iI_eq, iI_add, iI_sub, iI_mul, iI_cl, q_let_r, q_jn_r, q_b1_r, q_b2_r, q_b3_r, if_true, if_false, eq_self, q_gd_in, q_up_s, q_up_n, upd_s, upd_n, if_pos, if_neg]
theorem lk_end (K : IS → Option (Int32 × IS)) (fuel : Nat) (v : Int32) (y : IS) : f_X7_readsLook_L4 K (fuel + 1) v (iI ((4 + 1 : Nat) : Int)) y = K y := by
  show f_X7_readsLook_L4F K (f_X7_readsLook_L4 K fuel) v (iI ((4 + 1 : Nat) : Int)) y = _
  exact if_pos (by decide)
theorem lkA {L : Nat → Int} {len : Nat} (K : IS → Option (Int32 × IS)) : ∀ (l : List Int) (fuel p e k : Nat) (y : IS), w_ly L len y → w_N L l p e → k + l.length = 5 → (∀ i, i < l.length → w_lo (k + i) ≤ l.getD i 0 ∧ l.getD i 0 ≤ w_hi (k + i)) → l.length < fuel →
    ∃ y' : IS, f_X7_readsLook_L4 K fuel (iI p) (iI k) y = K y' ∧ y' 12 0 = iI e ∧ (∀ i, i < l.length → y' 10 (96 + k + i) = iI (l.getD i 0)) ∧ (∀ i, i < 96 + k ∨ 101 ≤ i → y' 10 i = y 10 i) ∧ ∀ c, c ≠ 10 → c ≠ 12 → y' c = y c := by
  intro l
  induction l with
  | nil => intro fuel p e k y _ h; exact absurd h id
  | cons v l ih =>
    intro fuel p e k y h hN h5' hrg hf
    obtain ⟨h1, h2, h3⟩ := hN
    subst h1
    have r0 : w_lo k ≤ w_nv L p ∧ w_nv L p ≤ w_hi k := hrg 0 (by simp)
    simp only [List.length_cons] at h5' hf hrg ⊢
    obtain ⟨fuel, rfl⟩ : ∃ z, fuel = z + 1 := ⟨fuel - 1, by omega⟩
    rcases h3 with ⟨h4, h5, h6⟩ | ⟨h4, h5⟩
    · subst h4 h5
      obtain rfl : k = 4 := by simp at h5'; omega
      obtain ⟨y3, st, s12, s10, sf⟩ := lk_step h K (by omega) r0.1 r0.2 (Or.inl rfl)
      obtain ⟨fuel, rfl⟩ : ∃ z, fuel = z + 1 := ⟨fuel - 1, by simp at hf; omega⟩
      refine ⟨y3, ?_, s12, fun i hi => ?_, fun i hi => ?_, sf⟩
      · rw [st]; exact lk_end K _ _ _
      · obtain rfl : i = 0 := by simp at hi; omega
        rw [s10]; exact upd_s _ _ _
      · rw [s10]; exact upd_n _ _ (by omega)
    · obtain ⟨-, hlen, -, -, -⟩ := w_N_no _ _ _ h5
      obtain ⟨y3, st, s12, s10, sf⟩ := lk_step h K (by omega) r0.1 r0.2 (Or.inr h4)
      obtain ⟨y', e', a12, a10, a10', af⟩ := ih fuel _ e (k + 1) y3 (w_ly_k h (sf 0 (by decide) (by decide)) (sf 1 (by decide) (by decide))) h5 (by omega) (fun i hi => by
        have := hrg (i + 1) (by omega)
        rw [show k + 1 + i = k + (i + 1) by omega]
        exact this) (by omega)
      refine ⟨y', ?_, a12, fun i hi => ?_, fun i hi => ?_, fun c k1 k2 => (af c k1 k2).trans (sf c k1 k2)⟩
      · rw [st]; exact e'
      · cases i with
        | zero => rw [a10' _ (by omega), s10]; exact upd_s _ _ _
        | succ i =>
          have := a10 i (by omega)
          rw [show 96 + k + (i + 1) = 96 + (k + 1) + i by omega]
          exact this
      · rw [a10' i (by omega), s10]; exact upd_n _ _ (by omega)
theorem lkB {L : Nat → Int} {len : Nat} (K : IS → Option (Int32 × IS)) : ∀ (t fuel p k : Nat) (y : IS), w_ly L len y → k + t = 5 → 1 ≤ t → t + 1 < fuel → p ≤ 900 → (∀ l e, w_N L l p e → ¬ (L e = 59 ∧ k + l.length = 5 ∧ ∀ i, i < l.length → w_lo (k + i) ≤ l.getD i 0 ∧ l.getD i 0 ≤ w_hi (k + i))) →
    ∃ y' : IS, (∀ c, c < 8 → y' c = y c) ∧ (f_X7_readsLook_L4 K fuel (iI p) (iI k) y = some (0, y') ∨ (f_X7_readsLook_L4 K fuel (iI p) (iI k) y = K y' ∧ ∃ e : Nat, e ≤ 900 ∧ y' 12 0 = iI e ∧ L e ≠ 59)) := by
  intro t
  induction t with
  | zero => intro fuel p k y _ _ h; omega
  | succ t ih =>
    intro fuel p k y h ht ht1 hf hp hN
    obtain ⟨fuel, rfl⟩ : ∃ z, fuel = z + 1 := ⟨fuel - 1, by omega⟩
    have hl := h.1
    by_cases hb : (w_nv L p < w_lo k ∨ w_hi k < w_nv L p) ∨ (k < 4 ∧ L (w_ne L p) ≠ 44)
    · obtain ⟨y3, st, sf⟩ := lk_bad h K hp (by omega) hb
      exact ⟨y3, sf, Or.inl (st fuel)⟩
    · have b1 := w_lo_b k (by omega)
      have hv : 0 ≤ w_nv L p := by omega
      have hin := w_nv_in h hv
      have lt := w_ne_lt hv
      have hr := w_ne_rg L p
      obtain ⟨y3, st, s12, s10, sf⟩ := lk_step h K (p := p) (k := k) (by omega) (by omega) (by omega) (by omega)
      by_cases h4 : k = 4
      · subst h4
        have h59 : L (w_ne L p) ≠ 59 := fun hh => hN _ _ (w_N_one hv (by omega)) ⟨hh, rfl, fun i hi => by
          obtain rfl : i = 0 := by simp at hi; omega
          show w_lo 4 ≤ w_nv L p ∧ w_nv L p ≤ w_hi 4
          omega⟩
        refine ⟨y3, fun c hc => sf c (by omega) (by omega), Or.inr ⟨?_, w_ne L p, by omega, s12, h59⟩⟩
        obtain ⟨fuel, rfl⟩ : ∃ z, fuel = z + 1 := ⟨fuel - 1, by omega⟩
        rw [st]; exact lk_end K _ _ _
      · have hcm : L (w_ne L p) = 44 := by omega
        obtain ⟨y', a1, a2⟩ := ih fuel (w_ne L p + 1) (k + 1) y3 (w_ly_k h (sf 0 (by decide) (by decide)) (sf 1 (by decide) (by decide))) (by omega) (by omega) (by omega) (by omega) (fun l e hl2 hh => hN _ e (w_N_more hv hcm hl2) ⟨hh.1, by simp only [List.length_cons]; omega, fun i hi => by
          cases i with
          | zero => show w_lo k ≤ w_nv L p ∧ w_nv L p ≤ w_hi k; omega
          | succ i =>
            have := hh.2.2 i (by simp at hi; omega)
            rw [show k + (i + 1) = k + 1 + i by omega]
            exact this⟩)
        refine ⟨y', fun c hc => (a1 c hc).trans (sf c (by omega) (by omega)), ?_⟩
        rw [st]; exact a2
end
