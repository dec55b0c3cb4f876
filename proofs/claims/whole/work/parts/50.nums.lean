section
/-! numbers with commas between: the list l from place p on, ended at place e -/
def w_N (L : Nat → Int) : List Int → Nat → Nat → Prop
  | [], _, _ => False
  | v :: l, p, e => v = w_nv L p ∧ 0 ≤ v ∧ ((l = [] ∧ e = w_ne L p ∧ L e ≠ 44) ∨ (L (w_ne L p) = 44 ∧ w_N L l (w_ne L p + 1) e))
def w_ls : List Int → Int
  | [] => 0
  | v :: l => v + w_ls l
theorem w_N_one {L : Nat → Int} {p : Nat} (h : 0 ≤ w_nv L p) (h2 : L (w_ne L p) ≠ 44) : w_N L [w_nv L p] p (w_ne L p) := ⟨rfl, h, Or.inl ⟨rfl, rfl, h2⟩⟩
theorem w_N_more {L : Nat → Int} {p e : Nat} {l : List Int} (h : 0 ≤ w_nv L p) (h2 : L (w_ne L p) = 44) (h3 : w_N L l (w_ne L p + 1) e) : w_N L (w_nv L p :: l) p e := ⟨rfl, h, Or.inr ⟨h2, h3⟩⟩
/-- what a number is not -/
theorem w_ne_no {L : Nat → Int} {p i : Nat} (h1 : p ≤ i) (h2 : i < w_ne L p) : 48 ≤ L i ∧ L i ≤ 57 := by
  unfold w_ne at h2
  by_cases d0 : w_dg (L p)
  · rw [if_pos d0] at h2
    by_cases hi : i = p
    · subst hi; exact d0
    · by_cases d1 : w_dg (L (p + 1))
      · rw [if_pos d1] at h2
        obtain rfl : i = p + 1 := by omega
        exact d1
      · rw [if_neg d1] at h2; omega
  · rw [if_neg d0] at h2; omega
theorem w_N_no {L : Nat → Int} : ∀ (l : List Int) (p e : Nat), w_N L l p e → p < e ∧ 1 ≤ l.length ∧ 0 ≤ w_ls l ∧ (∀ i, i < l.length → 0 ≤ l.getD i 0 ∧ l.getD i 0 ≤ 99) ∧ ∀ i, p ≤ i → i < e → L i ≠ 59 := by
  intro l
  induction l with
  | nil => intro p e h; exact absurd h id
  | cons v l ih =>
    intro p e h
    obtain ⟨h1, h2, h3⟩ := h
    have hv : 0 ≤ w_nv L p := by omega
    have lt := w_ne_lt hv
    have hh := w_nv_hi L p
    rcases h3 with ⟨h4, h5, h6⟩ | ⟨h4, h5⟩
    · subst h4 h5
      refine ⟨lt, Nat.le_refl _, ?_, fun i hi => ?_, fun i hi hi2 => ?_⟩
      · show 0 ≤ v + 0; omega
      · obtain rfl : i = 0 := by simp at hi; omega
        show 0 ≤ v ∧ v ≤ 99; omega
      · have := w_ne_no hi hi2; omega
    · obtain ⟨a1, a2, a3, a4, a5⟩ := ih _ _ h5
      refine ⟨by omega, by simp, ?_, fun i hi => ?_, fun i hi hi2 => ?_⟩
      · show 0 ≤ v + w_ls l; omega
      · cases i with
        | zero => show 0 ≤ v ∧ v ≤ 99; omega
        | succ i => exact a4 i (by simp at hi; omega)
      · by_cases hc : i < w_ne L p
        · have := w_ne_no hi hc; omega
        · by_cases hc2 : i = w_ne L p
          · subst hc2; omega
          · exact a5 i (by omega) hi2
/-- the place of a number lies in the text -/
theorem w_nv_in {L : Nat → Int} {len : Nat} {y : IS} (h : w_ly L len y) {p : Nat} (hv : 0 ≤ w_nv L p) : p < len := L_in h (by have := (w_nv_dg hv).1; omega)
theorem rc_step {L : Nat → Int} {len : Nat} {y : IS} (h : w_ly L len y) (K : IS → Option (Int32 × IS)) {p c : Nat} (hv : 0 ≤ w_nv L p) (h8 : y 8 0 = iI c) (hc : c < 48) :
    ∃ y3 : IS, (∀ fuel, f_X7_readsCells_L4 K (fuel + 1) (iI p) 1 y = f_X7_readsCells_L4 K fuel (iI ((w_ne L p + 1 : Nat) : Int)) (if L (w_ne L p) = 44 then 1 else 0) y3) ∧ y3 8 0 = iI ((c + 1 : Nat) : Int) ∧ y3 12 0 = iI (w_ne L p) ∧ y3 10 = upd (y 10) c (iI (w_nv L p)) ∧ ∀ k, k ≠ 8 → k ≠ 10 → k ≠ 12 → y3 k = y k := by
  have hin := w_nv_in h hv
  have hl := h.1
  have hr := w_ne_rg L p
  have hh := w_nv_hi L p
  obtain ⟨y1, e1, e12, fr⟩ := num_s h (p := p) (by omega)
  have y18 : y1 8 0 = iI c := by rw [fr 8 (by decide)]; exact h8
  have g8 : ∀ f : Nat → Int32, q_up y1 10 f 8 0 = iI c := fun f => by rw [q_up_n _ _ (by decide)]; exact y18
  generalize hy3 : q_up (q_up y1 10 (upd (y1 10) c (iI (w_nv L p)))) 8 (fun _ => iI ((c : Int) + 1)) = y3
  have y3l : w_ly L len y3 := w_ly_k h (by rw [← hy3, q_up_n _ _ (by decide), q_up_n _ _ (by decide), fr _ (by decide)]) (by rw [← hy3, q_up_n _ _ (by decide), q_up_n _ _ (by decide), fr _ (by decide)])
  have y312 : y3 12 0 = iI (w_ne L p) := by rw [← hy3, q_up_n _ _ (by decide), q_up_n _ _ (by decide)]; exact e12
  have aa := lAt y3l (p := w_ne L p) (by omega)
  have hra := h.2.2.1 (w_ne L p)
  refine ⟨y3, fun fuel => ?_, ?_, y312, ?_, fun k k1 k2 k3 => ?_⟩
  · show f_X7_readsCells_L4F K (f_X7_readsCells_L4 K fuel) (iI p) 1 y = _
    unfold f_X7_readsCells_L4F
    rw [if_neg (by decide)]
    refine (q_b2_s e1).trans ?_
    by_cases hcm : L (w_ne L p) = 44
    · simp (disch := omega) only [y18, g8, Int.toNat_natCast, hy3, e12, aa, hcm, iI_lit, iI_neg, iI_lt, iI_le, iI_eq, iI_add, iI_sub, iI_mul, iI_cl, q_let_r, q_jn_r, q_b1_r, q_b2_r, q_b3_r, if_true, if_false, eq_self, q_gd_in, q_up_s, q_up_n, upd_s, upd_n, if_pos, if_neg]
      rfl
    · simp (disch := omega) only [y18, g8, Int.toNat_natCast, hy3, e12, aa, hcm, iI_lit, iI_neg, iI_lt, iI_le, iI_eq, iI_add, iI_sub, iI_mul, iI_cl, q_let_r, q_jn_r, q_b1_r, q_b2_r, q_b3_r, if_true, if_false, eq_self, q_gd_in, q_up_s, q_up_n, upd_s, upd_n, if_pos, if_neg]
      rfl
  · rw [← hy3, q_up_s]; rfl
  · rw [← hy3, q_up_n _ _ (by decide), q_up_s, fr 10 (by decide)]
  · rw [← hy3, q_up_n _ _ k1, q_up_n _ _ k2, fr _ k3]
theorem rc_bad {L : Nat → Int} {len : Nat} {y : IS} (h : w_ly L len y) (K : IS → Option (Int32 × IS)) {p c : Nat} (hp : p ≤ 900) (h8 : y 8 0 = iI c) (hc : c ≤ 48) (hb : w_nv L p < 0 ∨ c = 48) :
    ∃ y3 : IS, (∀ fuel, f_X7_readsCells_L4 K (fuel + 1) (iI p) 1 y = some (0, y3)) ∧ ∀ k, k < 8 → y3 k = y k := by
  have hlo := w_nv_lo L p
  have hh := w_nv_hi L p
  obtain ⟨y1, e1, e12, fr⟩ := num_s h (p := p) (by omega)
  have y18 : y1 8 0 = iI c := by rw [fr 8 (by decide)]; exact h8
  refine ⟨y1, fun fuel => ?_, fun k hk => fr k (by omega)⟩
  show f_X7_readsCells_L4F K (f_X7_readsCells_L4 K fuel) (iI p) 1 y = _
  unfold f_X7_readsCells_L4F
  rw [if_neg (by decide)]
  refine (q_b2_s e1).trans ?_
  by_cases hn : w_nv L p < 0
  · simp (disch := omega) only [iI_lit, iI_neg, iI_lt, iI_le, iI_eq, iI_add, iI_sub, iI_mul, iI_cl, q_let_r, q_jn_r, q_b1_r, q_b2_r, q_b3_r, if_true, if_false, eq_self, q_gd_in, q_up_s, q_up_n, upd_s, upd_n, if_pos, if_neg]
  · have hc' : c = 48 := by omega
    subst hc'
    simp (disch := omega) only [y18, iI_lit, iI_neg, iI_lt, iI_le, iI_eq, iI_add, iI_sub, iI_mul, iI_cl, q_let_r, q_jn_r, q_b1_r, q_b2_r, q_b3_r, if_true, if_false, eq_self, q_gd_in, q_up_s, q_up_n, upd_s, upd_n, if_pos, if_neg]
theorem rcA {L : Nat → Int} {len : Nat} (K : IS → Option (Int32 × IS)) : ∀ (l : List Int) (fuel p e c : Nat) (y : IS), w_ly L len y → w_N L l p e → y 8 0 = iI c → c + l.length ≤ 48 → l.length < fuel →
    ∃ y' : IS, f_X7_readsCells_L4 K fuel (iI p) 1 y = K y' ∧ y' 8 0 = iI ((c + l.length : Nat) : Int) ∧ y' 12 0 = iI e ∧ (∀ i, i < l.length → y' 10 (c + i) = iI (l.getD i 0)) ∧ (∀ i, i < c ∨ c + l.length ≤ i → y' 10 i = y 10 i) ∧ ∀ k, k ≠ 8 → k ≠ 10 → k ≠ 12 → y' k = y k := by
  intro l
  induction l with
  | nil => intro fuel p e c y _ h; exact absurd h id
  | cons v l ih =>
    intro fuel p e c y h hN h8 h48 hf
    obtain ⟨h1, h2, h3⟩ := hN
    subst h1
    simp only [List.length_cons] at h48 hf ⊢
    obtain ⟨fuel, rfl⟩ : ∃ z, fuel = z + 1 := ⟨fuel - 1, by omega⟩
    obtain ⟨y3, s, s8, s12, s10, sf⟩ := rc_step h K h2 h8 (by omega)
    rcases h3 with ⟨h4, h5, h6⟩ | ⟨h4, h5⟩
    · subst h4 h5
      obtain ⟨fuel, rfl⟩ : ∃ z, fuel = z + 1 := ⟨fuel - 1, by simp at hf; omega⟩
      refine ⟨y3, ?_, s8, s12, fun i hi => ?_, fun i hi => ?_, sf⟩
      · rw [s, if_neg h6]; rfl
      · obtain rfl : i = 0 := by simp at hi; omega
        rw [s10]; exact upd_s _ _ _
      · rw [s10]; exact upd_n _ _ (by simp at hi; omega)
    · obtain ⟨y', e', a8, a12, a10, a10', af⟩ := ih fuel _ e (c + 1) y3 (w_ly_k h (sf 0 (by decide) (by decide) (by decide)) (sf 1 (by decide) (by decide) (by decide))) h5 s8 (by omega) (by omega)
      refine ⟨y', ?_, ?_, a12, fun i hi => ?_, fun i hi => ?_, fun k k1 k2 k3 => (af k k1 k2 k3).trans (sf k k1 k2 k3)⟩
      · rw [s, if_pos h4]; exact e'
      · rw [a8]; congr 2; omega
      · cases i with
        | zero => rw [a10' _ (Or.inl (by omega)), s10]; exact upd_s _ _ _
        | succ i =>
          have := a10 i (by omega)
          rw [show c + (i + 1) = c + 1 + i by omega]
          exact this
      · rw [a10' i (by omega), s10]; exact upd_n _ _ (by omega)
theorem rcB {L : Nat → Int} {len : Nat} (K : IS → Option (Int32 × IS)) : ∀ (t fuel p c : Nat) (y : IS), w_ly L len y → 201 ≤ p + t → t + 1 < fuel → p ≤ 900 → y 8 0 = iI c → c ≤ 48 → (∀ l e, w_N L l p e → ¬ (L e = 59 ∧ c + l.length ≤ 48)) →
    ∃ y' : IS, (∀ k, k < 8 → y' k = y k) ∧ (f_X7_readsCells_L4 K fuel (iI p) 1 y = some (0, y') ∨ (f_X7_readsCells_L4 K fuel (iI p) 1 y = K y' ∧ ∃ e : Nat, e ≤ 900 ∧ y' 12 0 = iI e ∧ L e ≠ 59)) := by
  intro t
  induction t with
  | zero =>
    intro fuel p c y h ht hf hp h8 hc _
    obtain ⟨fuel, rfl⟩ : ∃ z, fuel = z + 1 := ⟨fuel - 1, by omega⟩
    have hl := h.1
    obtain ⟨y3, s, sf⟩ := rc_bad h K hp h8 hc (Or.inl (by have := h.2.2.2.2 p (by omega); unfold w_nv; rw [if_neg (by omega)]; omega))
    exact ⟨y3, sf, Or.inl (s fuel)⟩
  | succ t ih =>
    intro fuel p c y h ht hf hp h8 hc hN
    obtain ⟨fuel, rfl⟩ : ∃ z, fuel = z + 1 := ⟨fuel - 1, by omega⟩
    have hl := h.1
    by_cases hb : w_nv L p < 0 ∨ c = 48
    · obtain ⟨y3, s, sf⟩ := rc_bad h K hp h8 hc hb
      exact ⟨y3, sf, Or.inl (s fuel)⟩
    · have hv : 0 ≤ w_nv L p := by omega
      have hin := w_nv_in h hv
      have lt := w_ne_lt hv
      have hr := w_ne_rg L p
      obtain ⟨y3, s, s8, s12, s10, sf⟩ := rc_step h K hv h8 (by omega)
      by_cases hcm : L (w_ne L p) = 44
      · obtain ⟨y', a1, a2⟩ := ih fuel (w_ne L p + 1) (c + 1) y3 (w_ly_k h (sf 0 (by decide) (by decide) (by decide)) (sf 1 (by decide) (by decide) (by decide))) (by omega) (by omega) (by omega) s8 (by omega) (fun l e hl2 hh => hN _ e (w_N_more hv hcm hl2) ⟨hh.1, by simp only [List.length_cons]; omega⟩)
        refine ⟨y', fun k hk => (a1 k hk).trans (sf k (by omega) (by omega) (by omega)), ?_⟩
        rw [s, if_pos hcm]; exact a2
      · have h59 : L (w_ne L p) ≠ 59 := fun hh => hN _ _ (w_N_one hv hcm) ⟨hh, by simp only [List.length_cons, List.length_nil]; omega⟩
        refine ⟨y3, fun k hk => sf k (by omega) (by omega) (by omega), Or.inr ⟨?_, w_ne L p, by omega, s12, h59⟩⟩
        obtain ⟨fuel, rfl⟩ : ∃ z, fuel = z + 1 := ⟨fuel - 1, by omega⟩
        rw [s, if_neg hcm]; rfl
end
