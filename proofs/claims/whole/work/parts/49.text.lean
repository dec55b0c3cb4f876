section
/-! the text: L p is the letter at place p, 0 behind the last -/
def w_ly (L : Nat → Int) (len : Nat) (y : IS) : Prop := len ≤ 200 ∧ y 0 0 = iI len ∧ (∀ p, -2147483648 ≤ L p ∧ L p < 2147483648) ∧ (∀ p, p < len → y 1 p = iI (L p)) ∧ ∀ p, len ≤ p → L p = 0
def w_lx (L : Nat → Int) (len : Nat) (x : IS) : Prop := len ≤ 200 ∧ x 2 0 = iI len ∧ (∀ p, -2147483648 ≤ L p ∧ L p < 2147483648) ∧ (∀ p, p < len → x 0 p = iI (L p)) ∧ ∀ p, len ≤ p → L p = 0
theorem w_l_of {x y : IS} (h : q_It x y) : ∃ (L : Nat → Int) (len : Nat), w_lx L len x ∧ w_ly L len y := by
  obtain ⟨len, h1, h2, h3, h4⟩ := h
  have r : ∀ p, -2147483648 ≤ (if p < len then (y 1 p).toInt else 0) ∧ (if p < len then (y 1 p).toInt else 0) < 2147483648 := by
    intro p
    have := i32_lo (y 1 p)
    have := i32_hi (y 1 p)
    split <;> omega
  have z : ∀ p, len ≤ p → (if p < len then (y 1 p).toInt else 0) = 0 := fun p hp => if_neg (by omega)
  refine ⟨fun p => if p < len then (y 1 p).toInt else 0, len, ⟨h1, h2, r, fun p hp => ?_, z⟩, h1, h3, r, fun p hp => ?_, z⟩
  · simp only [if_pos hp]; rw [iI_self]; exact h4 p hp
  · simp only [if_pos hp]; rw [iI_self]
theorem w_ly_k {L : Nat → Int} {len : Nat} {y y2 : IS} (h : w_ly L len y) (h0 : y2 0 = y 0) (h1 : y2 1 = y 1) : w_ly L len y2 := by
  unfold w_ly; rw [h0, h1]; exact h
theorem w_lx_k {L : Nat → Int} {len : Nat} {y y2 : IS} (h : w_lx L len y) (h0 : y2 0 = y 0) (h1 : y2 2 = y 2) : w_lx L len y2 := by
  unfold w_lx; rw [h0, h1]; exact h
theorem w_It_of {L : Nat → Int} {len : Nat} {x y : IS} (hx : w_lx L len x) (hy : w_ly L len y) : q_It x y :=
  ⟨len, hx.1, hx.2.1, hy.2.1, fun k hk => (hx.2.2.2.1 k hk).trans (hy.2.2.2.1 k hk).symm⟩
theorem lAt {L : Nat → Int} {len : Nat} {y : IS} (h : w_ly L len y) {p : Nat} (hp : p ≤ 1000) : f_X7_letterAt y (iI p) = some (iI (L p)) := by
  obtain ⟨h1, h2, h3, h4, h5⟩ := h
  by_cases hl : p < len
  · simp (disch := omega) only [f_X7_letterAt, h2, Int.toNat_natCast, h4, iI_lit, iI_neg, iI_lt, iI_le, iI_eq, iI_add, iI_sub, iI_mul, iI_cl, q_let_r, q_jn_r, q_b1_r, q_b2_r, q_b3_r, if_true, if_false, eq_self, q_gd_in, q_up_s, q_up_n, upd_s, upd_n, if_pos, if_neg]
  · simp (disch := omega) only [f_X7_letterAt, h2, h5, iI_lit, iI_neg, iI_lt, iI_le, iI_eq, iI_add, iI_sub, iI_mul, iI_cl, q_let_r, q_jn_r, q_b1_r, q_b2_r, q_b3_r, if_true, if_false, eq_self, q_gd_in, q_up_s, q_up_n, upd_s, upd_n, if_pos, if_neg]
theorem L_in {L : Nat → Int} {len : Nat} {y : IS} (h : w_ly L len y) {p : Nat} (hp : L p ≠ 0) : p < len := by
  by_cases hl : p < len
  · exact hl
  · exact absurd (h.2.2.2.2 p (by omega)) hp
/-- a figure -/
abbrev w_dg (z : Int) : Prop := 48 ≤ z ∧ z ≤ 57
def w_nv (L : Nat → Int) (p : Nat) : Int := if w_dg (L p) then (if w_dg (L (p + 1)) then 10 * (L p - 48) + (L (p + 1) - 48) else L p - 48) else -1
def w_ne (L : Nat → Int) (p : Nat) : Nat := if w_dg (L p) then (if w_dg (L (p + 1)) then p + 2 else p + 1) else p
theorem w_nv_lo (L : Nat → Int) (p : Nat) : -1 ≤ w_nv L p := by
  unfold w_nv w_dg; split <;> try split
  all_goals omega
theorem w_nv_hi (L : Nat → Int) (p : Nat) : w_nv L p ≤ 99 := by
  unfold w_nv w_dg; split <;> try split
  all_goals omega
theorem w_ne_rg (L : Nat → Int) (p : Nat) : p ≤ w_ne L p ∧ w_ne L p ≤ p + 2 := by
  unfold w_ne; split <;> try split
  all_goals omega
theorem w_nv_dg {L : Nat → Int} {p : Nat} (h : 0 ≤ w_nv L p) : w_dg (L p) := by
  unfold w_nv at h
  by_cases hd : w_dg (L p)
  · exact hd
  · rw [if_neg hd] at h; omega
theorem w_ne_lt {L : Nat → Int} {p : Nat} (h : 0 ≤ w_nv L p) : p < w_ne L p := by
  have := w_nv_dg h
  unfold w_ne; rw [if_pos this]; split <;> omega
theorem num_l {L : Nat → Int} {len : Nat} {y : IS} (h : w_ly L len y) {p : Nat} (hp : p ≤ 900) (k : Int32 → IS → Option (Int32 × IS)) (fuel : Nat) (hf : 3 ≤ fuel) (h12 : y 12 0 = iI p) :
    ∃ y' : IS, f_X7_number_L7 (iI p) k fuel (-1) y = k (iI (w_nv L p)) y' ∧ y' 12 0 = iI (w_ne L p) ∧ ∀ c, c ≠ 12 → y' c = y c := by
  obtain ⟨fuel, rfl⟩ : ∃ z, fuel = z + 3 := ⟨fuel - 3, by omega⟩
  have hl := h.1
  have r0 := h.2.2.1 p
  have r1 := h.2.2.1 (p + 1)
  have a0 := lAt h (p := p) (by omega)
  have m1 : (-1 : Int32) = iI (-1) := by decide
  by_cases d0 : w_dg (L p)
  · have l0 : p < len := L_in h (by have := d0.1; omega)
    have g0 := h.2.2.2.1 p l0
    have q0 := d0.1
    have q0' := d0.2
    have s1 : f_X7_number_L7 (iI p) k (fuel + 3) (-1) y = f_X7_number_L7 (iI p) k (fuel + 2) (iI (L p - 48)) (q_up y 12 (fun _ => iI ((p + 1 : Nat) : Int))) := by
      show f_X7_number_L7F (iI p) k (f_X7_number_L7 (iI p) k (fuel + 2)) (-1) y = _
      simp (disch := omega) only [f_X7_number_L7F, h12, a0, m1, g0, Int.toNat_natCast, iI_lit, iI_neg, iI_lt, iI_le, iI_eq, iI_add, iI_sub, iI_mul, iI_cl, q_let_r, q_jn_r, q_b1_r, q_b2_r, q_b3_r, if_true, if_false, eq_self, q_gd_in, q_up_s, q_up_n, upd_s, upd_n, if_pos, if_neg]
      rw [show (10 * 0 + L p - 48 : Int) = L p - 48 by omega]
      rfl
    have h' : w_ly L len (q_up y 12 (fun _ => iI ((p + 1 : Nat) : Int))) := w_ly_k h (q_up_n _ _ (by decide)) (q_up_n _ _ (by decide))
    have a1 := lAt h' (p := p + 1) (by omega)
    have e12 : (q_up y 12 (fun _ => iI ((p + 1 : Nat) : Int))) 12 0 = iI ((p + 1 : Nat) : Int) := by rw [q_up_s]
    by_cases d1 : w_dg (L (p + 1))
    · have l1 : p + 1 < len := L_in h (by have := d1.1; omega)
      have g1 := h'.2.2.2.1 (p + 1) l1
      have q1 := d1.1
      have q1' := d1.2
      have s2 : f_X7_number_L7 (iI p) k (fuel + 2) (iI (L p - 48)) (q_up y 12 (fun _ => iI ((p + 1 : Nat) : Int))) = f_X7_number_L7 (iI p) k (fuel + 1) (iI (w_nv L p)) (q_up (q_up y 12 (fun _ => iI ((p + 1 : Nat) : Int))) 12 (fun _ => iI ((p + 2 : Nat) : Int))) := by
        show f_X7_number_L7F (iI p) k (f_X7_number_L7 (iI p) k (fuel + 1)) (iI (L p - 48)) (q_up y 12 (fun _ => iI ((p + 1 : Nat) : Int))) = _
        generalize (q_up y 12 (fun _ => iI ((p + 1 : Nat) : Int))) = y1 at h' a1 e12 g1 ⊢
        simp (disch := omega) only [f_X7_number_L7F, e12, a1, g1, Int.toNat_natCast, iI_lit, iI_neg, iI_lt, iI_le, iI_eq, iI_add, iI_sub, iI_mul, iI_cl, q_let_r, q_jn_r, q_b1_r, q_b2_r, q_b3_r, if_true, if_false, eq_self, q_gd_in, q_up_s, q_up_n, upd_s, upd_n, if_pos, if_neg]
        have ev : w_nv L p = 10 * (L p - 48) + L (p + 1) - 48 := by unfold w_nv; rw [if_pos d0, if_pos d1]; omega
        rw [ev]
        rfl
      refine ⟨(q_up (q_up y 12 (fun _ => iI ((p + 1 : Nat) : Int))) 12 (fun _ => iI ((p + 2 : Nat) : Int))), ?_, ?_, fun c hc => ?_⟩
      · rw [s1, s2]
        show f_X7_number_L7F (iI p) k (f_X7_number_L7 (iI p) k fuel) (iI (w_nv L p)) _ = _
        generalize hy2 : (q_up (q_up y 12 (fun _ => iI ((p + 1 : Nat) : Int))) 12 (fun _ => iI ((p + 2 : Nat) : Int))) = y2
        have e2 : y2 12 0 = iI ((p + 2 : Nat) : Int) := by rw [← hy2, q_up_s]
        simp (disch := omega) only [f_X7_number_L7F, e2, iI_lit, iI_neg, iI_lt, iI_le, iI_eq, iI_add, iI_sub, iI_mul, iI_cl, q_let_r, q_jn_r, q_b1_r, q_b2_r, q_b3_r, if_true, if_false, eq_self, q_gd_in, q_up_s, q_up_n, upd_s, upd_n, if_pos, if_neg]
      · rw [q_up_s]; unfold w_ne; rw [if_pos d0, if_pos d1]
      · rw [q_up_n _ _ hc, q_up_n _ _ hc]
    · have ev : w_nv L p = L p - 48 := by unfold w_nv; rw [if_pos d0, if_neg d1]
      have ee : w_ne L p = p + 1 := by unfold w_ne; rw [if_pos d0, if_neg d1]
      refine ⟨q_up y 12 (fun _ => iI ((p + 1 : Nat) : Int)), ?_, ?_, fun c hc => q_up_n _ _ hc⟩
      · rw [s1, ev]
        show f_X7_number_L7F (iI p) k (f_X7_number_L7 (iI p) k (fuel + 1)) (iI (L p - 48)) (q_up y 12 (fun _ => iI ((p + 1 : Nat) : Int))) = _
        generalize (q_up y 12 (fun _ => iI ((p + 1 : Nat) : Int))) = y1 at h' a1 e12 ⊢
        by_cases hlo : L (p + 1) < 48
        · simp (disch := omega) only [f_X7_number_L7F, e12, a1, iI_lit, iI_neg, iI_lt, iI_le, iI_eq, iI_add, iI_sub, iI_mul, iI_cl, q_let_r, q_jn_r, q_b1_r, q_b2_r, q_b3_r, if_true, if_false, eq_self, q_gd_in, q_up_s, q_up_n, upd_s, upd_n, if_pos, if_neg]
        · have hhi : 57 < L (p + 1) := by unfold w_dg at d1; omega
          simp (disch := omega) only [f_X7_number_L7F, e12, a1, iI_lit, iI_neg, iI_lt, iI_le, iI_eq, iI_add, iI_sub, iI_mul, iI_cl, q_let_r, q_jn_r, q_b1_r, q_b2_r, q_b3_r, if_true, if_false, eq_self, q_gd_in, q_up_s, q_up_n, upd_s, upd_n, if_pos, if_neg]
      · rw [q_up_s, ee]
  · have ev : w_nv L p = -1 := by unfold w_nv; rw [if_neg d0]
    have ee : w_ne L p = p := by unfold w_ne; rw [if_neg d0]
    refine ⟨y, ?_, by rw [ee]; exact h12, fun _ _ => rfl⟩
    rw [ev]
    show f_X7_number_L7F (iI p) k (f_X7_number_L7 (iI p) k (fuel + 2)) (-1) y = _
    by_cases hlo : L p < 48
    · simp (disch := omega) only [f_X7_number_L7F, h12, a0, m1, iI_lit, iI_neg, iI_lt, iI_le, iI_eq, iI_add, iI_sub, iI_mul, iI_cl, q_let_r, q_jn_r, q_b1_r, q_b2_r, q_b3_r, if_true, if_false, eq_self, q_gd_in, q_up_s, q_up_n, upd_s, upd_n, if_pos, if_neg]
    · have hhi : 57 < L p := by unfold w_dg at d0; omega
      simp (disch := omega) only [f_X7_number_L7F, h12, a0, m1, iI_lit, iI_neg, iI_lt, iI_le, iI_eq, iI_add, iI_sub, iI_mul, iI_cl, q_let_r, q_jn_r, q_b1_r, q_b2_r, q_b3_r, if_true, if_false, eq_self, q_gd_in, q_up_s, q_up_n, upd_s, upd_n, if_pos, if_neg]
theorem num_s {L : Nat → Int} {len : Nat} {y : IS} (h : w_ly L len y) {p : Nat} (hp : p ≤ 900) :
    ∃ y' : IS, f_X7_number y (iI p) = some (iI (w_nv L p), y') ∧ y' 12 0 = iI (w_ne L p) ∧ ∀ c, c ≠ 12 → y' c = y c := by
  have h' : w_ly L len (q_up y 12 (fun _ => iI (p : Int))) := w_ly_k h (q_up_n _ _ (by decide)) (q_up_n _ _ (by decide))
  obtain ⟨y', e, e12, hc⟩ := num_l h' hp (fun e3 x5 => some (e3, x5)) 1000 (by omega) (by rw [q_up_s])
  exact ⟨y', e, e12, fun c h => (hc c h).trans (q_up_n _ _ h)⟩
/-! the words -/
def w_ch (wi k : Nat) : Int := ((q_byt.getD wi []).getD k 0).toInt
def w_wd (L : Nat → Int) (p wi : Nat) : Prop := ∀ k, k < q_len.getD wi 0 → L (p + k) = w_ch wi k
theorem w_ch_rg : ∀ wi, wi < 7 → ∀ k, k < q_len.getD wi 0 → 32 ≤ w_ch wi k ∧ w_ch wi k ≤ 126 ∧ w_ch wi k ≠ 59 := by decide +kernel
theorem slen_s : ∀ wi, wi < 7 → q_slen wi = some (iI (q_len.getD wi 0 : Nat)) := by decide +kernel
theorem sch_s : ∀ wi, wi < 7 → ∀ k, k < q_len.getD wi 0 → q_sch wi (iI (k : Nat)) = some (iI (w_ch wi k)) := by decide +kernel
theorem standsA {L : Nat → Int} {len : Nat} {x : IS} (h : w_lx L len x) {wi p : Nat} (hwi : wi < 7) (hp : p + q_len.getD wi 0 ≤ len) (K : Option Int32) :
    ∀ (t fuel k : Nat), k + t = q_len.getD wi 0 → t < fuel → (∀ i, k ≤ i → i < q_len.getD wi 0 → L (p + i) = w_ch wi i) → f_X4_stands_L27 wi x (iI p) K fuel (iI k) = K := by
  have h5 := q_len_5 wi hwi
  have hsl := slen_s wi hwi
  have hl := h.1
  intro t
  induction t with
  | zero =>
    intro fuel k h1 h2 _
    obtain ⟨fuel, rfl⟩ : ∃ z, fuel = z + 1 := ⟨fuel - 1, by omega⟩
    show f_X4_stands_L27F wi x (iI p) K (f_X4_stands_L27 wi x (iI p) K fuel) (iI k) = _
    simp (disch := omega) only [f_X4_stands_L27F, hsl, iI_lit, iI_neg, iI_lt, iI_le, iI_eq, iI_add, iI_sub, iI_mul, iI_cl, q_let_r, q_jn_r, q_b1_r, q_b2_r, q_b3_r, if_true, if_false, eq_self, q_gd_in, q_up_s, q_up_n, upd_s, upd_n, if_pos, if_neg]
  | succ t ih =>
    intro fuel k h1 h2 h3
    obtain ⟨fuel, rfl⟩ : ∃ z, fuel = z + 1 := ⟨fuel - 1, by omega⟩
    have hc := sch_s wi hwi k (by omega)
    have e := h.2.2.2.1 (p + k) (by omega)
    have e2 := h3 k (by omega) (by omega)
    have tn : ((p : Int) + (k : Int)).toNat = p + k := by omega
    have g := ih fuel (k + 1) (by omega) (by omega) (fun i hi hi2 => h3 i (by omega) hi2)
    show f_X4_stands_L27F wi x (iI p) K (f_X4_stands_L27 wi x (iI p) K fuel) (iI k) = _
    simp (disch := omega) only [f_X4_stands_L27F, hsl, hc, tn, e, e2, iI_lit, iI_neg, iI_lt, iI_le, iI_eq, iI_add, iI_sub, iI_mul, iI_cl, q_let_r, q_jn_r, q_b1_r, q_b2_r, q_b3_r, if_true, if_false, eq_self, q_gd_in, q_up_s, q_up_n, upd_s, upd_n, if_pos, if_neg]
    exact g
theorem standsB {L : Nat → Int} {len : Nat} {x : IS} (h : w_lx L len x) {wi p : Nat} (hwi : wi < 7) (hp : p + q_len.getD wi 0 ≤ len) (K : Option Int32) :
    ∀ (t fuel k : Nat), k + t = q_len.getD wi 0 → t < fuel → (¬ ∀ i, k ≤ i → i < q_len.getD wi 0 → L (p + i) = w_ch wi i) → f_X4_stands_L27 wi x (iI p) K fuel (iI k) = some (iI 0) := by
  have h5 := q_len_5 wi hwi
  have hsl := slen_s wi hwi
  have hl := h.1
  intro t
  induction t with
  | zero =>
    intro fuel k h1 h2 h3
    exact absurd (fun i hi hi2 => absurd hi2 (by omega)) h3
  | succ t ih =>
    intro fuel k h1 h2 h3
    obtain ⟨fuel, rfl⟩ : ∃ z, fuel = z + 1 := ⟨fuel - 1, by omega⟩
    have hc := sch_s wi hwi k (by omega)
    have hr := w_ch_rg wi hwi k (by omega)
    have hr2 := h.2.2.1 (p + k)
    have e := h.2.2.2.1 (p + k) (by omega)
    have tn : ((p : Int) + (k : Int)).toNat = p + k := by omega
    show f_X4_stands_L27F wi x (iI p) K (f_X4_stands_L27 wi x (iI p) K fuel) (iI k) = _
    by_cases e2 : L (p + k) = w_ch wi k
    · have g := ih fuel (k + 1) (by omega) (by omega) (fun hh => h3 fun i hi hi2 => by
        by_cases hik : i = k
        · subst hik; exact e2
        · exact hh i (by omega) hi2)
      simp (disch := omega) only [f_X4_stands_L27F, hsl, hc, tn, e, e2, iI_lit, iI_neg, iI_lt, iI_le, iI_eq, iI_add, iI_sub, iI_mul, iI_cl, q_let_r, q_jn_r, q_b1_r, q_b2_r, q_b3_r, if_true, if_false, eq_self, q_gd_in, q_up_s, q_up_n, upd_s, upd_n, if_pos, if_neg]
      exact g
    · simp (disch := omega) only [f_X4_stands_L27F, hsl, hc, tn, e, iI_lit, iI_neg, iI_lt, iI_le, iI_eq, iI_add, iI_sub, iI_mul, iI_cl, q_let_r, q_jn_r, q_b1_r, q_b2_r, q_b3_r, if_true, if_false, eq_self, q_gd_in, q_up_s, q_up_n, upd_s, upd_n, if_pos, if_neg]
theorem stands_t {L : Nat → Int} {len : Nat} {x : IS} (h : w_lx L len x) {wi p : Nat} (hwi : wi < 7) (hp : p ≤ 900) (hw : w_wd L p wi) : f_X4_stands x wi (iI p) (iI ((p + q_len.getD wi 0 : Nat) : Int)) = some (iI 1) := by
  have h5 := q_len_5 wi hwi
  have h1 : ∀ wi, wi < 7 → 1 ≤ q_len.getD wi 0 := by decide +kernel
  have h1 := h1 wi hwi
  have hsl := slen_s wi hwi
  have hin : p + q_len.getD wi 0 ≤ len := by
    have e := hw (q_len.getD wi 0 - 1) (by omega)
    have r := w_ch_rg wi hwi (q_len.getD wi 0 - 1) (by omega)
    by_cases hl : p + (q_len.getD wi 0 - 1) < len
    · omega
    · have := h.2.2.2.2 _ (Nat.le_of_not_lt hl); omega
  have hl := h.1
  have g := standsA h hwi hin (some (1 : Int32)) (q_len.getD wi 0) 1000 0 (by omega) (by omega) (fun i _ hi => hw i hi)
  simp (disch := omega) only [f_X4_stands, h.2.1, hsl, iI_lit, iI_neg, iI_lt, iI_le, iI_eq, iI_add, iI_sub, iI_mul, iI_cl, q_let_r, q_jn_r, q_b1_r, q_b2_r, q_b3_r, if_true, if_false, eq_self, q_gd_in, q_up_s, q_up_n, upd_s, upd_n, if_pos, if_neg]
  exact g
theorem stands_f {L : Nat → Int} {len : Nat} {x : IS} (h : w_lx L len x) {wi p q : Nat} (hwi : wi < 7) (hp : p ≤ 900) (hq : q ≤ 900) (hw : ¬ (q = p + q_len.getD wi 0 ∧ w_wd L p wi)) : f_X4_stands x wi (iI p) (iI q) = some (iI 0) := by
  have h5 := q_len_5 wi hwi
  have hsl := slen_s wi hwi
  have hl := h.1
  by_cases hq1 : len < q
  · simp (disch := omega) only [f_X4_stands, h.2.1, iI_lit, iI_neg, iI_lt, iI_le, iI_eq, iI_add, iI_sub, iI_mul, iI_cl, q_let_r, q_jn_r, q_b1_r, q_b2_r, q_b3_r, if_true, if_false, eq_self, q_gd_in, q_up_s, q_up_n, upd_s, upd_n, if_pos, if_neg]
  by_cases hq2 : q = p + q_len.getD wi 0
  · have g := standsB h hwi (p := p) (by omega) (some (1 : Int32)) (q_len.getD wi 0) 1000 0 (by omega) (by omega) (fun hh => hw ⟨hq2, fun i hi => hh i (by omega) hi⟩)
    simp (disch := omega) only [f_X4_stands, h.2.1, hsl, iI_lit, iI_neg, iI_lt, iI_le, iI_eq, iI_add, iI_sub, iI_mul, iI_cl, q_let_r, q_jn_r, q_b1_r, q_b2_r, q_b3_r, if_true, if_false, eq_self, q_gd_in, q_up_s, q_up_n, upd_s, upd_n, if_pos, if_neg]
    exact g
  · simp (disch := omega) only [f_X4_stands, h.2.1, hsl, iI_lit, iI_neg, iI_lt, iI_le, iI_eq, iI_add, iI_sub, iI_mul, iI_cl, q_let_r, q_jn_r, q_b1_r, q_b2_r, q_b3_r, if_true, if_false, eq_self, q_gd_in, q_up_s, q_up_n, upd_s, upd_n, if_pos, if_neg]
end
