section
def w_vw (n : Nat) (x : IS) (f : Nat → Int32) (wo : Int) : Prop := x 13 0 = iI n ∧ n ≤ 48 ∧ w_V n f ∧ (∀ i, i < n → (f (48 + i) = 0 ↔ x 9 i = 0 ∧ (i : Int) ≠ wo) ∧ x 8 i = f i) ∧ (∀ k, k < 5 → x 10 k = f (96 + k)) ∧ x 14 0 = f 101 ∧ -100 ≤ wo ∧ wo ≤ 200
theorem w_vw_c {n : Nat} {x x' : IS} {f : Nat → Int32} {wo : Int} (h : w_vw n x f wo) (hx : ∀ c, c ≠ 11 → c ≠ 12 → x' c = x c) : w_vw n x' f wo := by
  unfold w_vw
  rw [hx 13 (by decide) (by decide), hx 9 (by decide) (by decide), hx 8 (by decide) (by decide), hx 10 (by decide) (by decide), hx 14 (by decide) (by decide)]
  exact h
theorem w_V_rg {n : Nat} {f : Nat → Int32} (hV : w_V n f) : 1 ≤ (f 96).toInt ∧ (f 96).toInt ≤ 6 ∧ 0 ≤ (f 97).toInt ∧ (f 97).toInt ≤ 3 ∧ 1 ≤ (f 98).toInt ∧ (f 98).toInt ≤ 12 := by
  have h0 := hV.2.2.1 0 (by omega)
  have h1 := hV.2.2.1 1 (by omega)
  have h2 := hV.2.2.1 2 (by omega)
  exact ⟨h0.1, h0.2, h1.1, h1.2, h2.1, h2.2⟩
theorem w_win_len (n : Nat) (f : Nat → Int32) (lo hi : Int) (L : List Int32) : (w_win n f lo hi L).length ≤ L.length + (hi + 1 - lo).toNat := by
  have := w_from_len f (min (hi + 1) n - max lo 0).toNat (max lo 0).toNat L
  unfold w_win
  omega
theorem w_side_len {n : Nat} {f : Nat → Int32} (hV : w_V n f) (i : Nat) (side : Int) : (w_side n f i side).length ≤ 12 := by
  obtain ⟨r1, r2, g1, g2, -, -⟩ := w_V_rg hV
  have ha := w_win_len n f (i - (f 97).toInt - (f 96).toInt) (i - (f 97).toInt - 1) []
  have hb := w_win_len n f (i + (f 97).toInt + 1) (i + (f 97).toInt + (f 96).toInt) []
  have hc := w_win_len n f (i + (f 97).toInt + 1) (i + (f 97).toInt + (f 96).toInt) (w_ahead n f i [])
  have hd : (w_ahead n f i []).length ≤ 6 := by
    unfold w_ahead
    simp only [List.length_nil] at ha
    omega
  simp only [List.length_nil] at ha hb
  unfold w_side
  split
  · omega
  · split
    · unfold w_behind; omega
    · unfold w_behind; omega
theorem gather_s {n : Nat} {x : IS} {f : Nat → Int32} {wo : Int} (hv : w_vw n x f wo) {i : Nat} (hi : i < n) {side : Int} (hs0 : 0 ≤ side) (hs2 : side ≤ 2) : ∃ x', f_X3_gather x (iI i) (iI side) (iI wo) = some (iI (w_side n f i side).length, x') ∧ (∀ c, c ≠ 11 → c ≠ 12 → x' c = x c) ∧ w_X x' (w_side n f i side) := by
  obtain ⟨h13, n2, hV, hf, hk, h14, hwo1, hwo2⟩ := id hv
  obtain ⟨r1, r2, g1, g2, -, -⟩ := w_V_rg hV
  obtain ⟨r, hr⟩ : ∃ r : Int, (f 96).toInt = r := ⟨_, rfl⟩
  obtain ⟨g, hg⟩ : ∃ g : Int, (f 97).toInt = g := ⟨_, rfl⟩
  have e10 : x 10 0 = iI r := by rw [hk 0 (by omega), ← hr, iI_self]
  have e11 : x 10 1 = iI g := by rw [hk 1 (by omega), ← hg, iI_self]
  rw [hr] at r1 r2
  rw [hg] at g1 g2
  have t0 : (0 : Int).toNat = 0 := rfl
  have t1 : (1 : Int).toNat = 1 := rfl
  have hX0 : w_X (q_up x 12 (fun _ => iI 0)) [] := ⟨by rw [q_up_s]; rfl, trivial⟩
  have hc0 : ∀ c, c ≠ 11 → c ≠ 12 → q_up x 12 (fun _ => iI 0) c = x c := fun c _ h => q_up_n _ _ h
  have hv0 := w_vw_c hv hc0
  have ahead : ∃ x1, f_X3_gatherFrom (q_up x 12 (fun _ => iI 0)) (iI ((i : Int) - g - r)) (iI ((i : Int) - g - 1)) (iI wo) = some x1 ∧ (∀ c, c ≠ 11 → c ≠ 12 → x1 c = x c) ∧ w_X x1 (w_ahead n f i []) := by
    obtain ⟨x1, e, p1, p2⟩ := gathF (f := f) (lo := (i : Int) - g - r) (hi := (i : Int) - g - 1) n2 (by omega) (by omega) (by omega) (by omega) hwo1 hwo2 hv0.1 hv0.2.2.2.1 hX0 (by simp only [List.length_nil]; omega)
    refine ⟨x1, e, fun c h1 h2 => (p1 c h1 h2).trans (hc0 c h1 h2), ?_⟩
    unfold w_ahead
    rw [hr, hg]
    exact p2
  have behind : ∀ (x1 : IS) (L : List Int32), (∀ c, c ≠ 11 → c ≠ 12 → x1 c = x c) → w_X x1 L → L.length ≤ 6 → ∃ x2, f_X3_gatherFrom x1 (iI ((i : Int) + g + 1)) (iI ((i : Int) + g + r)) (iI wo) = some x2 ∧ (∀ c, c ≠ 11 → c ≠ 12 → x2 c = x c) ∧ w_X x2 (w_behind n f i L) := by
    intro x1 L hc1 hX1 hL
    have hv1 := w_vw_c hv hc1
    obtain ⟨x2, e, p1, p2⟩ := gathF (f := f) (lo := (i : Int) + g + 1) (hi := (i : Int) + g + r) n2 (by omega) (by omega) (by omega) (by omega) hwo1 hwo2 hv1.1 hv1.2.2.2.1 hX1 (by omega)
    refine ⟨x2, e, fun c h1 h2 => (p1 c h1 h2).trans (hc1 c h1 h2), ?_⟩
    unfold w_behind
    rw [hr, hg]
    exact p2
  obtain ⟨xa, ea, pa1, pa2⟩ := ahead
  have hLa : (w_ahead n f i []).length ≤ 6 := by
    have := w_win_len n f (i - (f 97).toInt - (f 96).toInt) (i - (f 97).toInt - 1) []
    unfold w_ahead
    simp only [List.length_nil] at this
    omega
  rcases (show side = 0 ∨ side = 1 ∨ side = 2 by omega) with rfl | rfl | rfl
  · refine ⟨xa, ?_, pa1, pa2⟩
    simp (disch := omega) only [f_X3_gather, t0, t1, e10, e11, q_b1_s ea, pa2.1, w_side, iI_lit, iI_neg, iI_lt, iI_le, iI_eq, iI_add, iI_sub, iI_mul, iI_cl, q_let_r, q_jn_r, q_b1_r, q_b2_r, q_b3_r, if_true, if_false, eq_self, q_gd_in, q_up_s, q_up_n, upd_s, upd_n, if_pos, if_neg]
  · obtain ⟨xb, eb, pb1, pb2⟩ := behind (q_up x 12 (fun _ => iI 0)) [] hc0 hX0 (by simp)
    refine ⟨xb, ?_, pb1, ?_⟩
    · simp (disch := omega) only [f_X3_gather, t0, t1, e10, e11, q_b1_s eb, pb2.1, w_side, iI_lit, iI_neg, iI_lt, iI_le, iI_eq, iI_add, iI_sub, iI_mul, iI_cl, q_let_r, q_jn_r, q_b1_r, q_b2_r, q_b3_r, if_true, if_false, eq_self, q_gd_in, q_up_s, q_up_n, upd_s, upd_n, if_pos, if_neg]
    · unfold w_side; rw [if_neg (by decide), if_pos rfl]; exact pb2
  · obtain ⟨xb, eb, pb1, pb2⟩ := behind xa (w_ahead n f i []) pa1 pa2 hLa
    refine ⟨xb, ?_, pb1, ?_⟩
    · simp (disch := omega) only [f_X3_gather, t0, t1, e10, e11, q_b1_s ea, q_b1_s eb, pb2.1, w_side, iI_lit, iI_neg, iI_lt, iI_le, iI_eq, iI_add, iI_sub, iI_mul, iI_cl, q_let_r, q_jn_r, q_b1_r, q_b2_r, q_b3_r, if_true, if_false, eq_self, q_gd_in, q_up_s, q_up_n, upd_s, upd_n, if_pos, if_neg]
    · unfold w_side; rw [if_neg (by decide), if_neg (by decide)]; exact pb2
theorem rankOn_s {n : Nat} {x : IS} {f : Nat → Int32} {wo : Int} (hv : w_vw n x f wo) {i : Nat} (hi : i < n) {side : Int} (hs0 : 0 ≤ side) (hs2 : side ≤ 2) : ∃ x', f_X3_rankOn x (iI i) (iI side) (iI wo) = some (w_rank (f 98).toInt.toNat (w_side n f i side), x') ∧ (∀ c, c ≠ 11 → c ≠ 12 → x' c = x c) := by
  obtain ⟨x1, e, p1, p2⟩ := gather_s hv hi hs0 hs2
  have hlen := w_side_len hv.2.2.1 i side
  obtain ⟨-, -, -, -, k1, k2⟩ := w_V_rg hv.2.2.1
  obtain ⟨K, hK⟩ : ∃ K : Nat, (f 98).toInt = K := ⟨(f 98).toInt.toNat, by omega⟩
  have e12 : x1 10 2 = iI K := by rw [p1 10 (by decide) (by decide), hv.2.2.2.2.1 2 (by omega), ← hK, iI_self]
  have t2 : (2 : Int).toNat = 2 := rfl
  refine ⟨x1, ?_, p1⟩
  rw [hK, Int.toNat_natCast]
  generalize w_side n f i side = L at *
  unfold w_rank
  by_cases hL : L = []
  · subst hL
    simp (disch := omega) only [f_X3_rankOn, q_b2_s e, t2, e12, List.length_nil, iI_lit, iI_neg, iI_lt, iI_le, iI_eq, iI_add, iI_sub, iI_mul, iI_cl, q_let_r, q_jn_r, q_b1_r, q_b2_r, q_b3_r, if_true, if_false, eq_self, q_gd_in, q_up_s, q_up_n, upd_s, upd_n, if_pos, if_neg]
  · rw [if_neg hL]
    have hpos : 0 < L.length := List.length_pos_iff.mpr hL
    by_cases hKL : K < L.length
    · simp (disch := omega) only [f_X3_rankOn, q_b2_s e, t2, e12, iI_lit, iI_neg, iI_lt, iI_le, iI_eq, iI_add, iI_sub, iI_mul, iI_cl, q_let_r, q_jn_r, q_b1_r, q_b2_r, q_b3_r, if_true, if_false, eq_self, q_gd_in, q_up_s, q_up_n, upd_s, upd_n, if_pos, if_neg]
      rw [w_rep_nth L _ p2.2 (by omega), show ((K : Int) - 1).toNat = min L.length K - 1 by omega]
    · simp (disch := omega) only [f_X3_rankOn, q_b2_s e, t2, e12, iI_lit, iI_neg, iI_lt, iI_le, iI_eq, iI_add, iI_sub, iI_mul, iI_cl, q_let_r, q_jn_r, q_b1_r, q_b2_r, q_b3_r, if_true, if_false, eq_self, q_gd_in, q_up_s, q_up_n, upd_s, upd_n, if_pos, if_neg]
      rw [w_rep_nth L _ p2.2 (by omega), show ((L.length : Int) - 1).toNat = min L.length K - 1 by omega]
theorem w_m4 : (-4 : Int32) = iI (-4) := rfl
theorem floorOf_s {n : Nat} {x : IS} {f : Nat → Int32} {wo : Int} (hv : w_vw n x f wo) {i : Nat} (hi : i < n) : ∃ x', f_X3_floorOf x (iI i) (iI wo) = some (w_floor n f i, x') ∧ (∀ c, c ≠ 11 → c ≠ 12 → x' c = x c) := by
  unfold f_X3_floorOf w_floor
  rw [hv.2.2.2.2.2.1]
  by_cases h0 : f 101 = 0
  · obtain ⟨x1, e, p1⟩ := rankOn_s hv hi (side := 2) (by omega) (by omega)
    rw [if_pos h0, if_pos h0]
    exact ⟨x1, q_b2_s e, p1⟩
  · rw [if_neg h0, if_neg h0]
    obtain ⟨x1, e1, p1⟩ := rankOn_s hv hi (side := 0) (by omega) (by omega)
    obtain ⟨x2, e2, p2⟩ := rankOn_s (w_vw_c hv p1) hi (side := 1) (by omega) (by omega)
    have p3 : ∀ c, c ≠ 11 → c ≠ 12 → x2 c = x c := fun c h1 h2 => (p2 c h1 h2).trans (p1 c h1 h2)
    refine ⟨x2, ?_, p3⟩
    refine (q_b2_s e1).trans ((q_b2_s e2).trans ?_)
    rw [p3 14 (by decide) (by decide), hv.2.2.2.2.2.1]
    generalize w_rank (f 98).toInt.toNat (w_side n f i 0) = a
    generalize w_rank (f 98).toInt.toNat (w_side n f i 1) = b
    repeat (first | rfl | split)
theorem outdoes_s {n : Nat} {x : IS} {f : Nat → Int32} {wo : Int} (hv : w_vw n x f wo) {i : Nat} (hi : i < n) (fl a : Int32) : f_X3_outdoes x (iI i) fl a = some (if x 9 i = 0 ∧ fl ≠ -4 ∧ a * fl < f 100 * f i then iI 1 else iI 0) := by
  obtain ⟨h13, n2, hV, hf, hk, h14, hwo1, hwo2⟩ := hv
  have e4 : x 10 4 = f 100 := hk 4 (by omega)
  have t4 : (4 : Int).toNat = 4 := rfl
  simp (disch := omega) only [f_X3_outdoes, has_t h13 n2, Int.toNat_natCast, t4, e4, (hf i hi).2, iI_lit, iI_neg, iI_lt, iI_le, iI_eq, iI_add, iI_sub, iI_mul, iI_cl, q_let_r, q_jn_r, q_b1_r, q_b2_r, q_b3_r, if_true, if_false, eq_self, q_gd_in, q_up_s, q_up_n, upd_s, upd_n, if_pos, if_neg]
  by_cases h9 : x 9 i = iI 0
  · rw [if_pos h9]
    by_cases h4 : fl = iI (-4)
    · rw [if_pos h4, if_neg (fun h => h.2.1 h4)]
    · rw [if_neg h4]
      by_cases hlt : f 100 * f i ≤ a * fl
      · rw [if_pos hlt, if_neg (fun h => absurd h.2.2 (Int32.not_lt.mpr hlt))]
      · rw [if_neg hlt, if_pos ⟨h9, h4, Int32.not_le.mp hlt⟩]
  · rw [if_neg h9, if_neg (fun h => h9 h.1)]
theorem alarms_s {n : Nat} {x : IS} {f : Nat → Int32} {wo : Int} (hv : w_vw n x f wo) {i : Nat} (hi : i < n) (hiw : (i : Int) ≠ wo) : ∃ x', f_X3_alarmsWithout x (iI i) (iI wo) = some (if w_al n f i = true then iI 1 else iI 0, x') ∧ (∀ c, c ≠ 11 → c ≠ 12 → x' c = x c) := by
  obtain ⟨x1, e, p1⟩ := floorOf_s hv hi
  refine ⟨x1, ?_, p1⟩
  have hv1 := w_vw_c hv p1
  unfold f_X3_alarmsWithout
  refine (q_b2_s e).trans ((q_b1_s (outdoes_s hv1 hi _ _)).trans ?_)
  have e3 : x1 10 (3 : Int32).toNatClampNeg = f 99 := hv1.2.2.2.2.1 3 (by omega)
  rw [e3]
  congr 2
  have hz := (hv1.2.2.2.1 i hi).1
  unfold w_al
  by_cases h : f (48 + i) = 0 ∧ w_floor n f i ≠ -4 ∧ f 99 * w_floor n f i < f 100 * f i
  · rw [if_pos ⟨(hz.mp h.1).1, h.2⟩, if_pos (decide_eq_true h)]
  · rw [if_neg (fun h2 => h ⟨hz.mpr ⟨h2.1, hiw⟩, h2.2⟩), if_neg (fun h2 => h (of_decide_eq_true h2))]
end
