section
theorem w_ins_len (v : Int32) : ∀ L : List Int32, (w_ins v L).length = L.length + 1
  | [] => rfl
  | a :: l => by
    unfold w_ins
    split
    · simp only [List.length_cons, w_ins_len v l]
    · rfl
theorem w_rep_upd {w : Nat → Int32} {e : Nat} {v : Int32} : ∀ L : List Int32, L.length ≤ e → w_rep w L → w_rep (upd w e v) L
  | [], _, _ => trivial
  | a :: l, h, hr => ⟨by rw [upd_n _ _ (by simp only [List.length_cons] at h; omega)]; exact hr.1, w_rep_upd l (by simp only [List.length_cons] at h; omega) hr.2⟩
theorem w_rep_c {w w' : Nat → Int32} : ∀ L : List Int32, (∀ i, i < L.length → w' i = w i) → w_rep w L → w_rep w' L
  | [], _, _ => trivial
  | a :: l, h, hr => ⟨by rw [h _ (by simp only [List.length_cons]; omega)]; exact hr.1, w_rep_c l (fun i hi => h i (by simp only [List.length_cons]; omega)) hr.2⟩
theorem w_rep_nth {w : Nat → Int32} : ∀ (L : List Int32) (k : Nat), w_rep w L → k < L.length → w k = w_nth L k
  | [], _, _, h => absurd h (by simp)
  | a :: l, k, hr, h => by
    unfold w_nth
    by_cases e : k = l.length
    · rw [if_pos e, e]; exact hr.1
    · rw [if_neg e]; exact w_rep_nth l k hr.2 (by simp only [List.length_cons] at h; omega)
theorem w_nth_mem : ∀ (L : List Int32) (k : Nat), k < L.length → w_nth L k ∈ L
  | [], _, h => absurd h (by simp)
  | a :: l, k, h => by
    unfold w_nth
    by_cases e : k = l.length
    · rw [if_pos e]; exact List.mem_cons_self
    · rw [if_neg e]; exact List.mem_cons_of_mem _ (w_nth_mem l k (by simp only [List.length_cons] at h; omega))
theorem w_ins_mem {v u : Int32} : ∀ L : List Int32, u ∈ w_ins v L → u = v ∨ u ∈ L
  | [], h => by simp only [w_ins, List.mem_singleton] at h; exact Or.inl h
  | a :: l, h => by
    unfold w_ins at h
    split at h
    · rcases List.mem_cons.mp h with h | h
      · exact Or.inr (by rw [h]; exact List.mem_cons_self)
      · exact (w_ins_mem l h).imp id (List.mem_cons_of_mem _)
    · rcases List.mem_cons.mp h with h | h
      · exact Or.inl h
      · exact Or.inr h
theorem w_from_len (f : Nat → Int32) : ∀ (t i : Nat) (L : List Int32), (w_from f t i L).length ≤ L.length + t
  | 0, _, _ => Nat.le_refl _
  | t + 1, i, L => by
    have := w_from_len f t (i + 1) (if f (48 + i) = 0 then w_ins (f i) L else L)
    have h2 : (if f (48 + i) = 0 then w_ins (f i) L else L).length ≤ L.length + 1 := by
      split
      · rw [w_ins_len]; exact Nat.le_refl _
      · omega
    show (w_from f t (i + 1) _).length ≤ _
    omega
theorem w_from_mem {f : Nat → Int32} {P : Int32 → Prop} : ∀ (t i : Nat) (L : List Int32), (∀ u ∈ L, P u) → (∀ k, i ≤ k → k < i + t → P (f k)) → ∀ u ∈ w_from f t i L, P u
  | 0, _, _, hL, _ => hL
  | t + 1, i, L, hL, hf => by
    refine w_from_mem t (i + 1) _ ?_ (fun k h1 h2 => hf k (by omega) (by omega))
    intro u hu
    split at hu
    · rcases w_ins_mem L hu with rfl | h
      · exact hf i (by omega) (by omega)
      · exact hL u h
    · exact hL u hu
theorem w_from_c {f g : Nat → Int32} : ∀ (t i : Nat) (L : List Int32), (∀ k, i ≤ k → k < i + t → f k = g k ∧ f (48 + k) = g (48 + k)) → w_from f t i L = w_from g t i L
  | 0, _, _, _ => rfl
  | t + 1, i, L, h => by
    show w_from f t (i + 1) _ = w_from g t (i + 1) _
    rw [(h i (by omega) (by omega)).1, (h i (by omega) (by omega)).2]
    exact w_from_c t (i + 1) _ (fun k h1 h2 => h k (by omega) (by omega))
/-! the class's side -/
theorem sortL (v : Int32) (k : Int32 → IS → Option IS) : ∀ (L : List Int32) (fuel : Nat) (x : IS), w_rep (x 11) L → L.length ≤ 11 → L.length < fuel → ∃ (x' : IS) (e : Nat), f_X3_sortIn_L22 v k fuel (iI L.length) x = k (iI e) x' ∧ e ≤ L.length ∧ (∀ c, c ≠ 11 → x' c = x c) ∧ (∀ i, L.length < i → x' 11 i = x 11 i) ∧ w_rep (upd (x' 11) e v) (w_ins v L) := by
  intro L
  induction L with
  | nil =>
    intro fuel x hr h1 h2
    obtain ⟨fuel, rfl⟩ : ∃ z, fuel = z + 1 := ⟨fuel - 1, by omega⟩
    refine ⟨x, 0, ?_, Nat.le_refl _, fun _ _ => rfl, fun _ _ => rfl, ⟨by simp only [List.length_nil, upd_s], trivial⟩⟩
    show f_X3_sortIn_L22F v k (f_X3_sortIn_L22 v k fuel) (iI _) x = _
    simp (disch := omega) only [f_X3_sortIn_L22F, List.length_nil, iI_lit, iI_neg, iI_lt, iI_le, iI_eq, iI_add, iI_sub, iI_mul, iI_cl, q_let_r, q_jn_r, q_b1_r, q_b2_r, q_b3_r, if_true, if_false, eq_self, q_gd_in, q_up_s, q_up_n, upd_s, upd_n, if_pos, if_neg]
  | cons a l ih =>
    intro fuel x hr h1 h2
    simp only [List.length_cons] at h1 h2
    obtain ⟨fuel, rfl⟩ : ∃ z, fuel = z + 1 := ⟨fuel - 1, by omega⟩
    have t1 : (((l.length + 1 : Nat) : Int) - 1).toNat = l.length := by omega
    have t2 : (((l.length + 1 : Nat) : Int)).toNat = l.length + 1 := by omega
    have t3 : ((l.length + 1 : Nat) : Int) + -1 = (l.length : Int) := by omega
    by_cases hva : v < a
    · obtain ⟨x', e, q1, q2, q3, q4, q5⟩ := ih fuel (q_up x 11 (upd (x 11) (l.length + 1) a)) (by rw [q_up_s]; exact w_rep_upd l (by omega) hr.2) (by omega) (by omega)
      refine ⟨x', e, ?_, by simp only [List.length_cons]; omega, fun c hc => ?_, fun i hi => ?_, ?_⟩
      · show f_X3_sortIn_L22F v k (f_X3_sortIn_L22 v k fuel) (iI (((a :: l).length : Nat) : Int)) x = _
        simp (disch := omega) only [f_X3_sortIn_L22F, List.length_cons, t1, t2, t3, hr.1, iI_lit, iI_neg, iI_lt, iI_le, iI_eq, iI_add, iI_sub, iI_mul, iI_cl, q_let_r, q_jn_r, q_b1_r, q_b2_r, q_b3_r, if_true, if_false, eq_self, q_gd_in, q_up_s, q_up_n, upd_s, upd_n]
        rw [if_neg (by omega), if_neg (Int32.not_le.mpr hva)]
        exact q1
      · rw [q3 c hc, q_up_n _ _ hc]
      · simp only [List.length_cons] at hi
        rw [q4 i (by omega), q_up_s, upd_n _ _ (by omega)]
      · unfold w_ins
        rw [if_pos hva]
        refine ⟨?_, q5⟩
        rw [w_ins_len, upd_n _ _ (by omega), q4 _ (by omega), q_up_s, upd_s]
    · refine ⟨x, l.length + 1, ?_, by simp only [List.length_cons]; omega, fun _ _ => rfl, fun _ _ => rfl, ?_⟩
      · show f_X3_sortIn_L22F v k (f_X3_sortIn_L22 v k fuel) (iI (((a :: l).length : Nat) : Int)) x = _
        simp (disch := omega) only [f_X3_sortIn_L22F, List.length_cons, t1, t2, t3, hr.1, iI_lit, iI_neg, iI_lt, iI_le, iI_eq, iI_add, iI_sub, iI_mul, iI_cl, q_let_r, q_jn_r, q_b1_r, q_b2_r, q_b3_r, if_true, if_false, eq_self, q_gd_in, q_up_s, q_up_n, upd_s, upd_n]
        rw [if_neg (by omega), if_pos (Int32.not_lt.mp hva)]
      · unfold w_ins
        rw [if_neg hva]
        exact ⟨by rw [List.length_cons, upd_s], w_rep_upd (a :: l) (by simp only [List.length_cons]; omega) hr⟩
/-- the window of the class holds L -/
def w_X (x : IS) (L : List Int32) : Prop := x 12 0 = iI L.length ∧ w_rep (x 11) L
theorem sortIn_s {x : IS} {L : List Int32} (hX : w_X x L) (hL : L.length ≤ 11) (v : Int32) : ∃ x', f_X3_sortIn x v = some x' ∧ (∀ c, c ≠ 11 → c ≠ 12 → x' c = x c) ∧ w_X x' (w_ins v L) := by
  obtain ⟨h12, hr⟩ := hX
  obtain ⟨x1, e, q1, q2, q3, q4, q5⟩ := sortL v (fun e5 x7 =>
          q_gd (q_in e5 12) (
          q_let (q_up x7 11 (upd (x7 11) e5.toNatClampNeg v)) fun x16 =>
          q_let (q_up x16 12 (fun _ => ((x16 12 0) + (1 : Int32)))) fun x17 =>
          some x17)) L 1000 x hr hL (by omega)
  refine ⟨q_up (q_up x1 11 (upd (x1 11) e v)) 12 (fun _ => iI ((L.length : Int) + 1)), ?_, fun c h1 h2 => ?_, ?_, ?_⟩
  · unfold f_X3_sortIn
    rw [h12, if_neg (by simp (disch := omega) only [iI_lit, iI_neg, iI_lt, iI_le, iI_eq, iI_add, iI_sub, iI_mul, iI_cl, q_let_r, q_jn_r, q_b1_r, q_b2_r, q_b3_r, if_true, if_false, eq_self, q_gd_in, q_up_s, q_up_n, upd_s, upd_n]; omega), if_pos (by simp (disch := omega) only [iI_lit, iI_neg, iI_lt, iI_le, iI_eq, iI_add, iI_sub, iI_mul, iI_cl, q_let_r, q_jn_r, q_b1_r, q_b2_r, q_b3_r, if_true, if_false, eq_self, q_gd_in, q_up_s, q_up_n, upd_s, upd_n]; omega)]
    refine q1.trans ?_
    simp (disch := omega) only [q3, h12, Int.toNat_natCast, iI_lit, iI_neg, iI_lt, iI_le, iI_eq, iI_add, iI_sub, iI_mul, iI_cl, q_let_r, q_jn_r, q_b1_r, q_b2_r, q_b3_r, if_true, if_false, eq_self, q_gd_in, q_up_s, q_up_n, upd_s, upd_n, if_pos, if_neg]
  · rw [q_up_n _ _ h2, q_up_n _ _ h1]; exact q3 c h1
  · rw [q_up_s, w_ins_len]; rfl
  · rw [q_up_n _ _ (by decide), q_up_s]; exact q5
theorem gathL {n : Nat} (h48 : n ≤ 48) {f : Nat → Int32} {hi wo : Int} (hhi1 : -100 ≤ hi) (hhi2 : hi ≤ 200) (hwo1 : -100 ≤ wo) (hwo2 : wo ≤ 200) (k : IS → Option IS) : ∀ (t fuel i : Nat) (L : List Int32) (x : IS), x 13 0 = iI n → (∀ i, i < n → (f (48 + i) = 0 ↔ x 9 i = 0 ∧ (i : Int) ≠ wo) ∧ x 8 i = f i) → w_X x L → t = (min (hi + 1) n - i).toNat → i ≤ 200 → L.length + t ≤ 12 → t < fuel → ∃ x', f_X3_gatherFrom_L7 (iI hi) (iI wo) k fuel (iI i) x = k x' ∧ (∀ c, c ≠ 11 → c ≠ 12 → x' c = x c) ∧ w_X x' (w_from f t i L) := by
  intro t
  induction t with
  | zero =>
    intro fuel i L x hn hf hX ht hi2 hL h2
    obtain ⟨fuel, rfl⟩ : ∃ z, fuel = z + 1 := ⟨fuel - 1, by omega⟩
    refine ⟨x, ?_, fun _ _ _ => rfl, hX⟩
    show f_X3_gatherFrom_L7F (iI hi) (iI wo) k (f_X3_gatherFrom_L7 (iI hi) (iI wo) k fuel) (iI i) x = _
    by_cases h : hi < i
    · simp (disch := omega) only [f_X3_gatherFrom_L7F, hn, iI_lit, iI_neg, iI_lt, iI_le, iI_eq, iI_add, iI_sub, iI_mul, iI_cl, q_let_r, q_jn_r, q_b1_r, q_b2_r, q_b3_r, if_true, if_false, eq_self, q_gd_in, q_up_s, q_up_n, upd_s, upd_n, if_pos, if_neg]
    · simp (disch := omega) only [f_X3_gatherFrom_L7F, hn, iI_lit, iI_neg, iI_lt, iI_le, iI_eq, iI_add, iI_sub, iI_mul, iI_cl, q_let_r, q_jn_r, q_b1_r, q_b2_r, q_b3_r, if_true, if_false, eq_self, q_gd_in, q_up_s, q_up_n, upd_s, upd_n, if_pos, if_neg]
  | succ t ih =>
    intro fuel i L x hn hf hX ht hi2 hL h2
    obtain ⟨fuel, rfl⟩ : ∃ z, fuel = z + 1 := ⟨fuel - 1, by omega⟩
    have hin : i < n := by omega
    obtain ⟨hf1, hf2⟩ := hf i hin
    have hgo : ∀ (x1 : IS) (L1 : List Int32), (∀ c, c ≠ 11 → c ≠ 12 → x1 c = x c) → w_X x1 L1 → L1.length ≤ L.length + 1 → ∃ x', f_X3_gatherFrom_L7 (iI hi) (iI wo) k fuel (iI ((i : Int) + 1)) x1 = k x' ∧ (∀ c, c ≠ 11 → c ≠ 12 → x' c = x c) ∧ w_X x' (w_from f t (i + 1) L1) := by
      intro x1 L1 hx1 hX1 hL1
      obtain ⟨x', e, p1, p2⟩ := ih fuel (i + 1) L1 x1 (by rw [hx1 13 (by omega) (by omega)]; exact hn) (fun i hi => by rw [hx1 9 (by omega) (by omega), hx1 8 (by omega) (by omega)]; exact hf i hi) hX1 (by omega) (by omega) (by omega) (by omega)
      exact ⟨x', e, fun c h1 h2 => (p1 c h1 h2).trans (hx1 c h1 h2), p2⟩
    by_cases hz : f (48 + i) = 0
    · obtain ⟨h9, hne⟩ := hf1.mp hz
      obtain ⟨x1, e1, q1, q2⟩ := sortIn_s hX (by omega) (f i)
      obtain ⟨x', e, p1, p2⟩ := hgo x1 (w_ins (f i) L) q1 q2 (by rw [w_ins_len]; omega)
      refine ⟨x', ?_, p1, ?_⟩
      · show f_X3_gatherFrom_L7F (iI hi) (iI wo) k (f_X3_gatherFrom_L7 (iI hi) (iI wo) k fuel) (iI i) x = _
        simp (disch := omega) only [f_X3_gatherFrom_L7F, hn, h9, hf2, Int.toNat_natCast, e1, iI_lit, iI_neg, iI_lt, iI_le, iI_eq, iI_add, iI_sub, iI_mul, iI_cl, q_let_r, q_jn_r, q_b1_r, q_b2_r, q_b3_r, if_true, if_false, eq_self, q_gd_in, q_up_s, q_up_n, upd_s, upd_n, if_pos, if_neg]
        exact e
      · show w_X x' (w_from f t (i + 1) (if f (48 + i) = 0 then w_ins (f i) L else L))
        rw [if_pos hz]; exact p2
    · obtain ⟨x', e, p1, p2⟩ := hgo x L (fun _ _ _ => rfl) hX (by omega)
      refine ⟨x', ?_, p1, ?_⟩
      · show f_X3_gatherFrom_L7F (iI hi) (iI wo) k (f_X3_gatherFrom_L7 (iI hi) (iI wo) k fuel) (iI i) x = _
        by_cases h9 : x 9 i = 0
        · have hw : (i : Int) = wo := Classical.byContradiction fun h => hz (hf1.mpr ⟨h9, h⟩)
          simp (disch := omega) only [f_X3_gatherFrom_L7F, hn, h9, Int.toNat_natCast, iI_lit, iI_neg, iI_lt, iI_le, iI_eq, iI_add, iI_sub, iI_mul, iI_cl, q_let_r, q_jn_r, q_b1_r, q_b2_r, q_b3_r, if_true, if_false, eq_self, q_gd_in, q_up_s, q_up_n, upd_s, upd_n, if_pos, if_neg]
          exact e
        · rw [show (0 : Int32) = iI 0 from rfl] at h9
          simp (disch := omega) only [f_X3_gatherFrom_L7F, hn, h9, Int.toNat_natCast, iI_lit, iI_neg, iI_lt, iI_le, iI_eq, iI_add, iI_sub, iI_mul, iI_cl, q_let_r, q_jn_r, q_b1_r, q_b2_r, q_b3_r, if_true, if_false, eq_self, q_gd_in, q_up_s, q_up_n, upd_s, upd_n, if_pos, if_neg]
          exact e
      · show w_X x' (w_from f t (i + 1) (if f (48 + i) = 0 then w_ins (f i) L else L))
        rw [if_neg hz]; exact p2
theorem gathF {n : Nat} (h48 : n ≤ 48) {f : Nat → Int32} {lo hi wo : Int} {x : IS} {L : List Int32} (hlo1 : -100 ≤ lo) (hlo2 : lo ≤ 200) (hhi1 : -100 ≤ hi) (hhi2 : hi ≤ 200) (hwo1 : -100 ≤ wo) (hwo2 : wo ≤ 200) (hn : x 13 0 = iI n) (hf : ∀ i, i < n → (f (48 + i) = 0 ↔ x 9 i = 0 ∧ (i : Int) ≠ wo) ∧ x 8 i = f i) (hX : w_X x L) (hL : L.length + (hi + 1 - lo).toNat ≤ 12) : ∃ x', f_X3_gatherFrom x (iI lo) (iI hi) (iI wo) = some x' ∧ (∀ c, c ≠ 11 → c ≠ 12 → x' c = x c) ∧ w_X x' (w_win n f lo hi L) := by
  obtain ⟨x', e, p1, p2⟩ := gathL h48 hhi1 hhi2 hwo1 hwo2 (fun x4 => some x4) (min (hi + 1) n - max lo 0).toNat 1000 (max lo 0).toNat L x hn hf hX (by omega) (by omega) (by omega) (by omega)
  refine ⟨x', ?_, p1, p2⟩
  unfold f_X3_gatherFrom
  rw [q_let_r]
  refine Eq.trans ?_ e
  congr 1
  by_cases h : lo < 0
  · rw [if_pos (by rw [show (0 : Int32) = iI 0 from rfl, iI_lt (by omega) (by omega) (by omega) (by omega)]; exact h), show ((max lo 0).toNat : Int) = 0 by omega]; rfl
  · rw [if_neg (by rw [show (0 : Int32) = iI 0 from rfl, iI_lt (by omega) (by omega) (by omega) (by omega)]; exact h), show ((max lo 0).toNat : Int) = lo by omega]
end
