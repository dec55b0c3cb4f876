section
/-! the reference's side -/
theorem meetL (a2 : Int32) {i : Nat} (hi : i < 48) (k : Int32 → IS → Option IS) : ∀ (L : List Int32) (fuel : Nat) (x : IS), w_rep (x 13) L → L.length ≤ 11 → L.length < fuel → ∃ (x' : IS) (e : Nat), f_X7_meets_L41 a2 (iI i) k fuel (iI L.length) x = k (iI e) x' ∧ e ≤ L.length ∧ (∀ c, c ≠ 13 → x' c = x c) ∧ (∀ i, L.length < i → x' 13 i = x 13 i) ∧ w_rep (upd (x' 13) e (x 5 i)) (w_ins (x 5 i) L) := by
  intro L
  induction L with
  | nil =>
    intro fuel x hr h1 h2
    obtain ⟨fuel, rfl⟩ : ∃ z, fuel = z + 1 := ⟨fuel - 1, by omega⟩
    refine ⟨x, 0, ?_, Nat.le_refl _, fun _ _ => rfl, fun _ _ => rfl, ⟨by simp only [List.length_nil, upd_s], trivial⟩⟩
    show f_X7_meets_L41F a2 (iI i) k (f_X7_meets_L41 a2 (iI i) k fuel) (iI _) x = _
    simp (disch := omega) only [f_X7_meets_L41F, List.length_nil, iI_lit, iI_neg, iI_lt, iI_le, iI_eq, iI_add, iI_sub, iI_mul, iI_cl, q_let_r, q_jn_r, q_b1_r, q_b2_r, q_b3_r, if_true, if_false, eq_self, q_gd_in, q_up_s, q_up_n, upd_s, upd_n, if_pos, if_neg]
  | cons a l ih =>
    intro fuel x hr h1 h2
    simp only [List.length_cons] at h1 h2
    obtain ⟨fuel, rfl⟩ : ∃ z, fuel = z + 1 := ⟨fuel - 1, by omega⟩
    have t1 : (((l.length + 1 : Nat) : Int) - 1).toNat = l.length := by omega
    have t2 : (((l.length + 1 : Nat) : Int)).toNat = l.length + 1 := by omega
    have t3 : ((l.length + 1 : Nat) : Int) + -1 = (l.length : Int) := by omega
    by_cases hva : x 5 i < a
    · obtain ⟨x', e, q1, q2, q3, q4, q5⟩ := ih fuel (q_up x 13 (upd (x 13) (l.length + 1) a)) (by rw [q_up_s]; exact w_rep_upd l (by omega) hr.2) (by omega) (by omega)
      rw [q_up_n _ _ (by decide)] at q5
      refine ⟨x', e, ?_, by simp only [List.length_cons]; omega, fun c hc => ?_, fun i hi => ?_, ?_⟩
      · show f_X7_meets_L41F a2 (iI i) k (f_X7_meets_L41 a2 (iI i) k fuel) (iI (((a :: l).length : Nat) : Int)) x = _
        simp (disch := omega) only [f_X7_meets_L41F, List.length_cons, Int.toNat_natCast, t1, t2, t3, hr.1, iI_lit, iI_neg, iI_lt, iI_le, iI_eq, iI_add, iI_sub, iI_mul, iI_cl, q_let_r, q_jn_r, q_b1_r, q_b2_r, q_b3_r, if_true, if_false, eq_self, q_gd_in, q_up_s, q_up_n, upd_s, upd_n]
        rw [if_neg (by omega), if_neg (Int32.not_le.mpr hva)]
        exact q1
      · rw [q3 c hc, q_up_n _ _ hc]
      · simp only [List.length_cons] at hi
        rw [q4 i (by omega), q_up_s, upd_n _ _ (by omega)]
      · unfold w_ins
        rw [if_pos hva]
        refine ⟨?_, q5⟩
        rw [w_ins_len, upd_n _ _ (by omega), q4 _ (by omega), q_up_s, upd_s]
    · refine ⟨x, l.length + 1, ?_, by simp only [List.length_cons]; omega, fun _ _ => rfl, fun _ _ => rfl, ?_⟩
      · show f_X7_meets_L41F a2 (iI i) k (f_X7_meets_L41 a2 (iI i) k fuel) (iI (((a :: l).length : Nat) : Int)) x = _
        simp (disch := omega) only [f_X7_meets_L41F, List.length_cons, Int.toNat_natCast, t1, t2, t3, hr.1, iI_lit, iI_neg, iI_lt, iI_le, iI_eq, iI_add, iI_sub, iI_mul, iI_cl, q_let_r, q_jn_r, q_b1_r, q_b2_r, q_b3_r, if_true, if_false, eq_self, q_gd_in, q_up_s, q_up_n, upd_s, upd_n]
        rw [if_neg (by omega), if_pos (Int32.not_lt.mp hva)]
      · unfold w_ins
        rw [if_neg hva]
        exact ⟨by rw [List.length_cons, upd_s], w_rep_upd (a :: l) (by simp only [List.length_cons]; omega) hr⟩
def w_Y (y : IS) (L : List Int32) : Prop := y 14 0 = iI L.length ∧ w_rep (y 13) L
theorem meetF {n : Nat} (h48 : n ≤ 48) {hi : Int} (hhi1 : -100 ≤ hi) (hhi2 : hi ≤ 200) (k : IS → Option IS) : ∀ (t fuel i : Nat) (L : List Int32) (x : IS), x 2 0 = iI n → w_Y x L → t = (min (hi + 1) n - i).toNat → i ≤ 200 → L.length + t ≤ 12 → t < fuel → ∃ x', f_X7_meets_L10 (iI hi) k fuel (iI i) x = k x' ∧ (∀ c, c ≠ 13 → c ≠ 14 → x' c = x c) ∧ w_Y x' (w_from (x 5) t i L) := by
  intro t
  induction t with
  | zero =>
    intro fuel i L x hn hX ht hi2 hL h2
    obtain ⟨fuel, rfl⟩ : ∃ z, fuel = z + 1 := ⟨fuel - 1, by omega⟩
    refine ⟨x, ?_, fun _ _ _ => rfl, hX⟩
    show f_X7_meets_L10F (iI hi) k (f_X7_meets_L10 (iI hi) k fuel) (iI i) x = _
    by_cases h : hi < i
    · simp (disch := omega) only [f_X7_meets_L10F, hn, iI_lit, iI_neg, iI_lt, iI_le, iI_eq, iI_add, iI_sub, iI_mul, iI_cl, q_let_r, q_jn_r, q_b1_r, q_b2_r, q_b3_r, if_true, if_false, eq_self, q_gd_in, q_up_s, q_up_n, upd_s, upd_n, if_pos, if_neg]
    · simp (disch := omega) only [f_X7_meets_L10F, hn, iI_lit, iI_neg, iI_lt, iI_le, iI_eq, iI_add, iI_sub, iI_mul, iI_cl, q_let_r, q_jn_r, q_b1_r, q_b2_r, q_b3_r, if_true, if_false, eq_self, q_gd_in, q_up_s, q_up_n, upd_s, upd_n, if_pos, if_neg]
  | succ t ih =>
    intro fuel i L x hn hX ht hi2 hL h2
    obtain ⟨fuel, rfl⟩ : ∃ z, fuel = z + 1 := ⟨fuel - 1, by omega⟩
    have hin : i < n := by omega
    have t48 : (48 + (i : Int)).toNat = 48 + i := by omega
    have hgo : ∀ (x1 : IS) (L1 : List Int32), (∀ c, c ≠ 13 → c ≠ 14 → x1 c = x c) → w_Y x1 L1 → L1.length ≤ L.length + 1 → ∃ x', f_X7_meets_L10 (iI hi) k fuel (iI ((i : Int) + 1)) x1 = k x' ∧ (∀ c, c ≠ 13 → c ≠ 14 → x' c = x c) ∧ w_Y x' (w_from (x 5) t (i + 1) L1) := by
      intro x1 L1 hx1 hX1 hL1
      obtain ⟨x', e, p1, p2⟩ := ih fuel (i + 1) L1 x1 (by rw [hx1 2 (by omega) (by omega)]; exact hn) hX1 (by omega) (by omega) (by omega) (by omega)
      rw [hx1 5 (by omega) (by omega)] at p2
      exact ⟨x', e, fun c h1 h2 => (p1 c h1 h2).trans (hx1 c h1 h2), p2⟩
    have hg1 : q_in ((48 : Int32) + iI i) 102 := by rw [show (48 : Int32) = iI 48 from rfl, iI_add]; exact iI_in (by omega) (by omega) (by omega)
    have hg2 : ((48 : Int32) + iI (i : Int)).toNatClampNeg = 48 + i := by rw [show (48 : Int32) = iI 48 from rfl, iI_add, iI_cl (by omega) (by omega)]; exact t48
    have hnot : ¬ iI hi < iI (i : Int) := by rw [iI_lt (by omega) (by omega) (by omega) (by omega)]; omega
    have hnot2 : ¬ iI (n : Int) ≤ iI (i : Int) := by rw [iI_le (by omega) (by omega) (by omega) (by omega)]; omega
    by_cases hz : x 5 (48 + i) = 0
    · obtain ⟨x1, e, q1, q2, q3, q4, q5⟩ := meetL (iI hi) (i := i) (by omega) (fun e12 x14 =>
            q_gd (q_in (iI i) 102) (
            q_gd (q_in e12 12) (
            q_let (q_up x14 13 (upd (x14 13) e12.toNatClampNeg (x14 5 (iI (i : Int)).toNatClampNeg))) fun x25 =>
            q_let (q_up x25 14 (fun _ => ((x25 14 0) + (1 : Int32)))) fun x26 =>
            (fun (x27 : IS) => q_let (iI (i : Int) + 1) fun v28 => f_X7_meets_L10 (iI hi) k fuel v28 x27) x26))) L 1000 x hX.2 (by omega) (by omega)
      obtain ⟨x', e', p1, p2⟩ := hgo (q_up (q_up x1 13 (upd (x1 13) e (x 5 i))) 14 (fun _ => iI ((L.length : Int) + 1))) (w_ins (x 5 i) L) (fun c h1 h2 => by rw [q_up_n _ _ h2, q_up_n _ _ h1]; exact q3 c h1) ⟨by rw [q_up_s, w_ins_len]; rfl, by rw [q_up_n _ _ (by decide), q_up_s]; exact q5⟩ (by rw [w_ins_len]; omega)
      refine ⟨x', ?_, p1, ?_⟩
      · show f_X7_meets_L10F (iI hi) k (f_X7_meets_L10 (iI hi) k fuel) (iI i) x = _
        unfold f_X7_meets_L10F
        rw [if_neg hnot, hn, if_neg hnot2, q_gd_t hg1, hg2, q_jn_r, if_pos hz, hX.1]
        refine q1.trans ?_
        simp (disch := omega) only [q3, hX.1, Int.toNat_natCast, iI_lit, iI_neg, iI_lt, iI_le, iI_eq, iI_add, iI_sub, iI_mul, iI_cl, q_let_r, q_jn_r, q_b1_r, q_b2_r, q_b3_r, if_true, if_false, eq_self, q_gd_in, q_up_s, q_up_n, upd_s, upd_n, if_pos, if_neg]
        exact e'
      · show w_Y x' (w_from (x 5) t (i + 1) (if x 5 (48 + i) = 0 then w_ins (x 5 i) L else L))
        rw [if_pos hz]; exact p2
    · obtain ⟨x', e, p1, p2⟩ := hgo x L (fun _ _ _ => rfl) hX (by omega)
      refine ⟨x', ?_, p1, ?_⟩
      · show f_X7_meets_L10F (iI hi) k (f_X7_meets_L10 (iI hi) k fuel) (iI i) x = _
        unfold f_X7_meets_L10F
        rw [if_neg hnot, hn, if_neg hnot2, q_gd_t hg1, hg2, q_jn_r, if_neg hz]
        simp (disch := omega) only [iI_lit, iI_neg, iI_lt, iI_le, iI_eq, iI_add, iI_sub, iI_mul, iI_cl, q_let_r, q_jn_r, q_b1_r, q_b2_r, q_b3_r, if_true, if_false, eq_self, q_gd_in, q_up_s, q_up_n, upd_s, upd_n, if_pos, if_neg]
        exact e
      · show w_Y x' (w_from (x 5) t (i + 1) (if x 5 (48 + i) = 0 then w_ins (x 5 i) L else L))
        rw [if_neg hz]; exact p2
theorem meets_s {n : Nat} (h48 : n ≤ 48) {lo hi : Int} {x : IS} {L : List Int32} (hlo1 : -100 ≤ lo) (hlo2 : lo ≤ 200) (hhi1 : -100 ≤ hi) (hhi2 : hi ≤ 200) (hn : x 2 0 = iI n) (hX : w_Y x L) (hL : L.length + (hi + 1 - lo).toNat ≤ 12) : ∃ x', f_X7_meets x (iI lo) (iI hi) = some x' ∧ (∀ c, c ≠ 13 → c ≠ 14 → x' c = x c) ∧ w_Y x' (w_win n (x 5) lo hi L) := by
  obtain ⟨x', e, p1, p2⟩ := meetF h48 hhi1 hhi2 (fun x4 => some x4) (min (hi + 1) n - max lo 0).toNat 1000 (max lo 0).toNat L x hn hX (by omega) (by omega) (by omega) (by omega)
  refine ⟨x', ?_, p1, p2⟩
  unfold f_X7_meets
  rw [q_jn_r]
  by_cases h : lo < 0
  · rw [if_neg (by rw [show (0 : Int32) = iI 0 from rfl, iI_le (by omega) (by omega) (by omega) (by omega)]; omega)]
    rw [show ((max lo 0).toNat : Int) = 0 by omega] at e
    exact e
  · rw [if_pos (by rw [show (0 : Int32) = iI 0 from rfl, iI_le (by omega) (by omega) (by omega) (by omega)]; omega)]
    rw [show ((max lo 0).toNat : Int) = lo by omega] at e
    exact e
def w_vm (n : Nat) (y : IS) : Prop := y 2 0 = iI n ∧ n ≤ 48 ∧ w_V n (y 5)
theorem w_vm_c {n : Nat} {y y' : IS} (h : w_vm n y) (hy : ∀ c, c ≠ 13 → c ≠ 14 → y' c = y c) : w_vm n y' := by
  unfold w_vm
  rw [hy 2 (by decide) (by decide), hy 5 (by decide) (by decide)]
  exact h
theorem rank_s {n : Nat} {y : IS} (hv : w_vm n y) {i : Nat} (hi : i < n) {side : Int} (hs0 : 0 ≤ side) (hs2 : side ≤ 2) : ∃ y', f_X7_rank y (iI i) (iI side) = some (iI (w_side n (y 5) i side).length, y') ∧ (∀ c, c ≠ 13 → c ≠ 14 → y' c = y c) ∧ w_Y y' (w_side n (y 5) i side) := by
  obtain ⟨h2, n2, hV⟩ := id hv
  obtain ⟨r1, r2, g1, g2, -, -⟩ := w_V_rg hV
  obtain ⟨r, hr⟩ : ∃ r : Int, (y 5 96).toInt = r := ⟨_, rfl⟩
  obtain ⟨g, hg⟩ : ∃ g : Int, (y 5 97).toInt = g := ⟨_, rfl⟩
  have e10 : y 5 96 = iI r := by rw [← hr, iI_self]
  have e11 : y 5 97 = iI g := by rw [← hg, iI_self]
  rw [hr] at r1 r2
  rw [hg] at g1 g2
  have t0 : (96 : Int).toNat = 96 := rfl
  have t1 : (97 : Int).toNat = 97 := rfl
  have hX0 : w_Y (q_up y 14 (fun _ => iI 0)) [] := ⟨by rw [q_up_s]; rfl, trivial⟩
  have hc0 : ∀ c, c ≠ 13 → c ≠ 14 → q_up y 14 (fun _ => iI 0) c = y c := fun c _ h => q_up_n _ _ h
  have ahead : ∃ x1, f_X7_meets (q_up y 14 (fun _ => iI 0)) (iI ((i : Int) - g - r)) (iI ((i : Int) - g - 1)) = some x1 ∧ (∀ c, c ≠ 13 → c ≠ 14 → x1 c = y c) ∧ w_Y x1 (w_ahead n (y 5) i []) := by
    obtain ⟨x1, e, p1, p2⟩ := meets_s (x := q_up y 14 (fun _ => iI 0)) (lo := (i : Int) - g - r) (hi := (i : Int) - g - 1) n2 (by omega) (by omega) (by omega) (by omega) (by rw [hc0 2 (by decide) (by decide)]; exact h2) hX0 (by simp only [List.length_nil]; omega)
    refine ⟨x1, e, fun c h1 h2 => (p1 c h1 h2).trans (hc0 c h1 h2), ?_⟩
    unfold w_ahead
    rw [hr, hg]
    rw [hc0 5 (by decide) (by decide)] at p2
    exact p2
  have behind : ∀ (x1 : IS) (L : List Int32), (∀ c, c ≠ 13 → c ≠ 14 → x1 c = y c) → w_Y x1 L → L.length ≤ 6 → ∃ x2, f_X7_meets x1 (iI ((i : Int) + g + 1)) (iI ((i : Int) + g + r)) = some x2 ∧ (∀ c, c ≠ 13 → c ≠ 14 → x2 c = y c) ∧ w_Y x2 (w_behind n (y 5) i L) := by
    intro x1 L hc1 hX1 hL
    obtain ⟨x2, e, p1, p2⟩ := meets_s (x := x1) (lo := (i : Int) + g + 1) (hi := (i : Int) + g + r) n2 (by omega) (by omega) (by omega) (by omega) (by rw [hc1 2 (by decide) (by decide)]; exact h2) hX1 (by omega)
    refine ⟨x2, e, fun c h1 h2 => (p1 c h1 h2).trans (hc1 c h1 h2), ?_⟩
    unfold w_behind
    rw [hr, hg]
    rw [hc1 5 (by decide) (by decide)] at p2
    exact p2
  obtain ⟨xa, ea, pa1, pa2⟩ := ahead
  have hLa : (w_ahead n (y 5) i []).length ≤ 6 := by
    have := w_win_len n (y 5) (i - (y 5 97).toInt - (y 5 96).toInt) (i - (y 5 97).toInt - 1) []
    unfold w_ahead
    simp only [List.length_nil] at this
    omega
  rcases (show side = 0 ∨ side = 1 ∨ side = 2 by omega) with rfl | rfl | rfl
  · refine ⟨xa, ?_, pa1, pa2⟩
    simp (disch := omega) only [f_X7_rank, t0, t1, e10, e11, q_b1_s ea, pa2.1, w_side, iI_lit, iI_neg, iI_lt, iI_le, iI_eq, iI_add, iI_sub, iI_mul, iI_cl, q_let_r, q_jn_r, q_b1_r, q_b2_r, q_b3_r, if_true, if_false, eq_self, q_gd_in, q_up_s, q_up_n, upd_s, upd_n, if_pos, if_neg]
  · obtain ⟨xb, eb, pb1, pb2⟩ := behind (q_up y 14 (fun _ => iI 0)) [] hc0 hX0 (by simp)
    refine ⟨xb, ?_, pb1, ?_⟩
    · simp (disch := omega) only [f_X7_rank, t0, t1, e10, e11, q_b1_s eb, pb2.1, w_side, iI_lit, iI_neg, iI_lt, iI_le, iI_eq, iI_add, iI_sub, iI_mul, iI_cl, q_let_r, q_jn_r, q_b1_r, q_b2_r, q_b3_r, if_true, if_false, eq_self, q_gd_in, q_up_s, q_up_n, upd_s, upd_n, if_pos, if_neg]
    · unfold w_side; rw [if_neg (by decide), if_pos rfl]; exact pb2
  · obtain ⟨xb, eb, pb1, pb2⟩ := behind xa (w_ahead n (y 5) i []) pa1 pa2 hLa
    refine ⟨xb, ?_, pb1, ?_⟩
    · simp (disch := omega) only [f_X7_rank, t0, t1, e10, e11, q_b1_s ea, q_b1_s eb, pb2.1, w_side, iI_lit, iI_neg, iI_lt, iI_le, iI_eq, iI_add, iI_sub, iI_mul, iI_cl, q_let_r, q_jn_r, q_b1_r, q_b2_r, q_b3_r, if_true, if_false, eq_self, q_gd_in, q_up_s, q_up_n, upd_s, upd_n, if_pos, if_neg]
    · unfold w_side; rw [if_neg (by decide), if_neg (by decide)]; exact pb2
theorem byRank_s {n : Nat} {y : IS} (hv : w_vm n y) {i : Nat} (hi : i < n) {side : Int} (hs0 : 0 ≤ side) (hs2 : side ≤ 2) : ∃ y', f_X7_byRank y (iI i) (iI side) = some (w_rank (y 5 98).toInt.toNat (w_side n (y 5) i side), y') ∧ (∀ c, c ≠ 13 → c ≠ 14 → y' c = y c) := by
  obtain ⟨x1, e, p1, p2⟩ := rank_s hv hi hs0 hs2
  have hlen := w_side_len hv.2.2 i side
  obtain ⟨-, -, -, -, k1, k2⟩ := w_V_rg hv.2.2
  obtain ⟨K, hK⟩ : ∃ K : Nat, (y 5 98).toInt = K := ⟨(y 5 98).toInt.toNat, by omega⟩
  have e12 : x1 5 98 = iI K := by rw [p1 5 (by decide) (by decide), ← hK, iI_self]
  have t2 : (98 : Int).toNat = 98 := rfl
  refine ⟨x1, ?_, p1⟩
  rw [hK, Int.toNat_natCast]
  generalize w_side n (y 5) i side = L at *
  unfold w_rank
  by_cases hL : L = []
  · subst hL
    simp (disch := omega) only [f_X7_byRank, q_b2_s e, List.length_nil, iI_lit, iI_neg, iI_lt, iI_le, iI_eq, iI_add, iI_sub, iI_mul, iI_cl, q_let_r, q_jn_r, q_b1_r, q_b2_r, q_b3_r, if_true, if_false, eq_self, q_gd_in, q_up_s, q_up_n, upd_s, upd_n, if_pos, if_neg]
  · rw [if_neg hL]
    have hpos : 0 < L.length := List.length_pos_iff.mpr hL
    by_cases hKL : K ≤ L.length
    · simp (disch := omega) only [f_X7_byRank, q_b2_s e, t2, e12, iI_lit, iI_neg, iI_lt, iI_le, iI_eq, iI_add, iI_sub, iI_mul, iI_cl, q_let_r, q_jn_r, q_b1_r, q_b2_r, q_b3_r, if_true, if_false, eq_self, q_gd_in, q_up_s, q_up_n, upd_s, upd_n, if_pos, if_neg]
      rw [w_rep_nth L _ p2.2 (by omega), show ((K : Int) - 1).toNat = min L.length K - 1 by omega]
    · simp (disch := omega) only [f_X7_byRank, q_b2_s e, t2, e12, iI_lit, iI_neg, iI_lt, iI_le, iI_eq, iI_add, iI_sub, iI_mul, iI_cl, q_let_r, q_jn_r, q_b1_r, q_b2_r, q_b3_r, if_true, if_false, eq_self, q_gd_in, q_up_s, q_up_n, upd_s, upd_n, if_pos, if_neg]
      rw [w_rep_nth L _ p2.2 (by omega), show ((L.length : Int) - 1).toNat = min L.length K - 1 by omega]
theorem w_V_pow {n : Nat} {f : Nat → Int32} (hV : w_V n f) : ∀ k, k < n → 0 ≤ (f k).toInt := fun k hk => (hV.1 k hk).1
theorem w_win_mem {n : Nat} {f : Nat → Int32} {lo hi : Int} {L : List Int32} (hV : w_V n f) (hL : ∀ u ∈ L, 0 ≤ u.toInt) : ∀ u ∈ w_win n f lo hi L, 0 ≤ u.toInt := by
  unfold w_win
  exact w_from_mem (P := fun u => 0 ≤ u.toInt) _ _ _ hL (fun k h1 h2 => w_V_pow hV k (by omega))
theorem w_side_mem {n : Nat} {f : Nat → Int32} (hV : w_V n f) (i : Nat) (side : Int) : ∀ u ∈ w_side n f i side, 0 ≤ u.toInt := by
  have h0 : ∀ u ∈ ([] : List Int32), 0 ≤ u.toInt := fun u h => absurd h List.not_mem_nil
  unfold w_side w_ahead w_behind
  split
  · exact w_win_mem hV h0
  · split
    · exact w_win_mem hV h0
    · exact w_win_mem hV (w_win_mem hV h0)
theorem w_rank_or {K : Nat} {L : List Int32} (hK : 1 ≤ K) (hL : ∀ u ∈ L, 0 ≤ u.toInt) : w_rank K L = -4 ∨ 0 ≤ (w_rank K L).toInt := by
  unfold w_rank
  by_cases h : L = []
  · rw [if_pos h]; exact Or.inl rfl
  · rw [if_neg h]
    have hpos : 0 < L.length := List.length_pos_iff.mpr h
    exact Or.inr (hL _ (w_nth_mem L _ (by omega)))
theorem i32_neg {v : Int32} (h : v = -4 ∨ 0 ≤ v.toInt) : (v < 0 ↔ v = -4) := by
  constructor
  · intro h2
    rcases h with h | h
    · exact h
    · rw [Int32.lt_iff_toInt_lt] at h2
      exact absurd h2 (by show ¬ v.toInt < 0; omega)
  · intro h2; rw [h2]; decide
theorem i32_nn {v : Int32} : (0 ≤ v ↔ ¬ v < 0) := Int32.not_lt.symm
theorem mfloor_s {n : Nat} {y : IS} (hv : w_vm n y) {i : Nat} (hi : i < n) : ∃ y', f_X7_floorOf y (iI i) = some (w_floor n (y 5) i, y') ∧ (∀ c, c ≠ 13 → c ≠ 14 → y' c = y c) := by
  obtain ⟨-, -, -, -, k1, k2⟩ := w_V_rg hv.2.2
  have hm := hv.2.2.2.2.2
  have t1 : (101 : Int32).toNatClampNeg = 101 := by decide
  unfold f_X7_floorOf w_floor
  rw [t1]
  by_cases h0 : y 5 101 = 0
  · obtain ⟨x1, e, p1⟩ := byRank_s hv hi (side := 2) (by omega) (by omega)
    rw [if_pos h0, if_pos h0]
    exact ⟨x1, q_b2_s e, p1⟩
  · rw [if_neg h0, if_neg h0]
    obtain ⟨x1, e1, p1⟩ := byRank_s hv hi (side := 0) (by omega) (by omega)
    obtain ⟨x2, e2, p2⟩ := byRank_s (w_vm_c hv p1) hi (side := 1) (by omega) (by omega)
    have p3 : ∀ c, c ≠ 13 → c ≠ 14 → x2 c = y c := fun c h1 h2 => (p2 c h1 h2).trans (p1 c h1 h2)
    rw [p1 5 (by decide) (by decide)] at e2
    refine ⟨x2, ?_, p3⟩
    refine (q_b2_s e1).trans ((q_b2_s e2).trans ?_)
    rw [p3 5 (by decide) (by decide)]
    have ha := i32_neg (w_rank_or (K := (y 5 98).toInt.toNat) (by omega) (w_side_mem hv.2.2 i 0))
    have hb := i32_neg (w_rank_or (K := (y 5 98).toInt.toNat) (by omega) (w_side_mem hv.2.2 i 1))
    generalize w_rank (y 5 98).toInt.toNat (w_side n (y 5) i 0) = a at *
    generalize w_rank (y 5 98).toInt.toNat (w_side n (y 5) i 1) = b at *
    simp only [q_jn_r]
    by_cases h1 : a = -4
    · rw [if_pos (ha.mpr h1), if_neg (fun h => i32_nn.mp h (ha.mpr h1)), if_pos h1]
    · have h1' : ¬ a < 0 := fun h => h1 (ha.mp h)
      rw [if_neg h1', if_pos (i32_nn.mpr h1'), if_neg h1]
      by_cases h2 : b = -4
      · rw [if_neg (fun h => i32_nn.mp h (hb.mpr h2)), if_pos h2]
      · have h2' : ¬ b < 0 := fun h => h2 (hb.mp h)
        rw [if_pos (i32_nn.mpr h2'), if_neg h2]
        by_cases h3 : y 5 101 = 1
        · by_cases h4 : a ≤ b
          · have h5 : (if a < b then b else a) = b := by
              by_cases h6 : a < b
              · rw [if_pos h6]
              · rw [if_neg h6]; exact Int32.le_antisymm h4 (Int32.not_lt.mp h6)
            simp [h3, h4, h5]
          · have h5 : ¬ a < b := fun h => h4 (Int32.le_of_lt h)
            simp [h3, h4, h5]
        · by_cases h4 : a ≤ b
          · have h5 : ¬ b < a := Int32.not_lt.mpr h4
            simp [h3, h4, h5]
          · have h5 : b < a := Int32.not_le.mp h4
            simp [h3, h4, h5]
theorem w_floor_or {n : Nat} {f : Nat → Int32} (hV : w_V n f) (i : Nat) : w_floor n f i = -4 ∨ 0 ≤ (w_floor n f i).toInt := by
  obtain ⟨-, -, -, -, k1, k2⟩ := w_V_rg hV
  have h0 := w_rank_or (K := (f 98).toInt.toNat) (by omega) (w_side_mem hV i 0)
  have h1 := w_rank_or (K := (f 98).toInt.toNat) (by omega) (w_side_mem hV i 1)
  have h2 := w_rank_or (K := (f 98).toInt.toNat) (by omega) (w_side_mem hV i 2)
  unfold w_floor
  repeat (first | assumption | split)
theorem isAlarm_s {n : Nat} {y : IS} (hv : w_vm n y) {i : Nat} (hi : i < n) : ∃ y', f_X7_isAlarm y (iI i) = some (if w_al n (y 5) i = true then iI 1 else iI 0, y') ∧ (∀ c, c ≠ 13 → c ≠ 14 → y' c = y c) := by
  obtain ⟨y1, e, p1⟩ := mfloor_s hv hi
  refine ⟨y1, ?_, p1⟩
  have hn := i32_neg (w_floor_or hv.2.2 i)
  have n2 := hv.2.1
  have t48 : (48 + (i : Int)).toNat = 48 + i := by omega
  have t99 : (99 : Int).toNat = 99 := rfl
  have t100 : (100 : Int).toNat = 100 := rfl
  unfold f_X7_isAlarm
  refine (q_b2_s e).trans ?_
  rw [p1 5 (by decide) (by decide)]
  rw [show (0 : Int32) = iI 0 from rfl] at hn
  simp (disch := omega) only [Int.toNat_natCast, t48, t99, t100, iI_lit, iI_neg, iI_lt, iI_le, iI_eq, iI_add, iI_sub, iI_mul, iI_cl, q_let_r, q_jn_r, q_b1_r, q_b2_r, q_b3_r, if_true, if_false, eq_self, q_gd_in, q_up_s, q_up_n, upd_s, upd_n, if_pos, if_neg]
  unfold w_al
  by_cases h9 : y 5 (48 + i) = iI 0
  · rw [if_pos h9]
    by_cases h4 : w_floor n (y 5) i < iI 0
    · rw [if_pos h4, if_neg (fun h => (of_decide_eq_true h).2.1 (hn.mp h4))]
    · rw [if_neg h4]
      by_cases hlt : y 5 100 * y 5 i ≤ y 5 99 * w_floor n (y 5) i
      · rw [if_pos hlt, if_neg (fun h => absurd (of_decide_eq_true h).2.2 (Int32.not_lt.mpr hlt))]
      · rw [if_neg hlt, if_pos (decide_eq_true ⟨h9, fun h => h4 (hn.mpr h), Int32.not_le.mp hlt⟩)]
  · rw [if_neg h9, if_neg (fun h => h9 (of_decide_eq_true h).1)]
end
