section
theorem fillL_l (k : IS → Option IS) : ∀ (t fuel a : Nat) (x : IS), a + t = 48 → t < fuel → ∃ x' : IS, f_J7_fill_53178__X3_left_L5 0 k fuel (iI a) x = k x' ∧ (∀ c, c ≠ 9 → x' c = x c) ∧ (∀ i, a ≤ i → i < 48 → x' 9 i = 0) ∧ ∀ i, i < a → x' 9 i = x 9 i := by
  intro t
  induction t with
  | zero =>
    intro fuel a x ha hf
    obtain rfl : a = 48 := by omega
    obtain ⟨fuel, rfl⟩ : ∃ z, fuel = z + 1 := ⟨fuel - 1, by omega⟩
    refine ⟨x, ?_, fun _ _ => rfl, fun i h1 h2 => by omega, fun _ _ => rfl⟩
    show f_J7_fill_53178__X3_left_L5F 0 k (f_J7_fill_53178__X3_left_L5 0 k fuel) (iI (48 : Nat)) x = _
    exact if_pos (by decide)
  | succ t ih =>
    intro fuel a x ha hf
    obtain ⟨fuel, rfl⟩ : ∃ z, fuel = z + 1 := ⟨fuel - 1, by omega⟩
    obtain ⟨x', e, b1, b2, b3⟩ := ih fuel (a + 1) (q_up x 9 (upd (x 9) a 0)) (by omega) (by omega)
    refine ⟨x', ?_, fun c hc => (b1 c hc).trans (q_up_n _ _ hc), fun i i1 i2 => ?_, fun i hi => ?_⟩
    · show f_J7_fill_53178__X3_left_L5F 0 k (f_J7_fill_53178__X3_left_L5 0 k fuel) (iI a) x = _
      simp (disch := omega) only [f_J7_fill_53178__X3_left_L5F, Int.toNat_natCast, iI_lit, iI_neg, iI_lt, iI_le, iI_eq, iI_add, iI_sub, iI_mul, iI_cl, q_let_r, q_jn_r, q_b1_r, q_b2_r, q_b3_r, if_true, if_false, eq_self, q_gd_in, q_up_s, q_up_n, upd_s, upd_n, if_pos, if_neg]
      exact e
    · by_cases hi : i = a
      · subst hi; rw [b3 i (by omega), q_up_s]; exact upd_s _ _ _
      · exact b2 i (by omega) i2
    · rw [b3 i (by omega), q_up_s]; exact upd_n _ _ (by omega)
theorem fillL_s (x : IS) : ∃ x' : IS, f_J7_fill_53178__X3_left x 0 = some x' ∧ (∀ c, c ≠ 9 → x' c = x c) ∧ ∀ i, i < 48 → x' 9 i = 0 := by
  obtain ⟨x', e, b1, b2, -⟩ := fillL_l (fun x3 => some x3) 48 1000 0 x rfl (by omega)
  exact ⟨x', e, b1, fun i hi => b2 i (by omega) hi⟩
theorem rowTake_s (x : IS) : ∃ x' : IS, f_X3_take x = some x' ∧ (∀ c, c ≠ 8 → c ≠ 9 → c ≠ 10 → c ≠ 13 → c ≠ 14 → c ≠ 15 → x' c = x c) ∧ (∀ i, i < 48 → x' 8 i = x 3 i) ∧ (∀ i, i < 48 → x' 9 i = 0) ∧ (∀ i, i < 5 → x' 10 i = x 4 i) ∧ x' 13 0 = x 6 0 ∧ x' 14 0 = x 7 0 ∧ x' 15 0 = 1 := by
  have e0 : (0 : Int32).toNatClampNeg = 0 := by decide
  have e5 : (5 : Int32).toNatClampNeg = 5 := by decide
  have e48 : (48 : Int32).toNatClampNeg = 48 := by decide
  obtain ⟨z, e, b1, b2⟩ := fillL_s (q_up (q_up x 8 (va_cpy (x 3) (x 8) 0 0 48)) 10 (va_cpy (x 4) (x 10) 0 0 5))
  have q : f_X3_take x = some (q_up (q_up (q_up z 13 (fun _ => z 6 0)) 14 (fun _ => z 7 0)) 15 (fun _ => (1 : Int32))) := by
    unfold f_X3_take
    simp (disch := decide) only [q_let_r, e0, e5, e48, q_up_s, q_up_n]
    exact (q_b1_s e).trans rfl
  refine ⟨_, q, fun c c1 c2 c3 c4 c5 c6 => ?_, fun i hi => ?_, fun i hi => ?_, fun i hi => ?_, ?_, ?_, ?_⟩
  · rw [q_up_n _ _ c6, q_up_n _ _ c5, q_up_n _ _ c4, b1 c c2, q_up_n _ _ c3, q_up_n _ _ c1]
  · rw [q_up_n _ _ (by decide), q_up_n _ _ (by decide), q_up_n _ _ (by decide), b1 8 (by decide), q_up_n _ _ (by decide), q_up_s, va_cpy_in (by omega) (by omega), Nat.zero_add, Nat.sub_zero]
  · rw [q_up_n _ _ (by decide), q_up_n _ _ (by decide), q_up_n _ _ (by decide)]; exact b2 i hi
  · rw [q_up_n _ _ (by decide), q_up_n _ _ (by decide), q_up_n _ _ (by decide), b1 10 (by decide), q_up_s, va_cpy_in (by omega) (by omega), Nat.zero_add, Nat.sub_zero]
  · rw [q_up_n _ _ (by decide), q_up_n _ _ (by decide), q_up_s, b1 6 (by decide), q_up_n _ _ (by decide), q_up_n _ _ (by decide)]
  · rw [q_up_n _ _ (by decide), q_up_s, b1 7 (by decide), q_up_n _ _ (by decide), q_up_n _ _ (by decide)]
  · rw [q_up_s]
theorem dtL (k : IS → Option IS) : ∀ (t fuel a : Nat) (x : IS), a + t = 8 → t < fuel → x 24 0 = iI (w_sum (x 5) a) → ∃ x' : IS, f_X1_take_L7 k fuel (iI a) x = k x' ∧ (∀ c, c ≠ 23 → c ≠ 24 → x' c = x c) ∧ (∀ i, a ≤ i → i < 8 → x' 23 i = x 5 i) ∧ (∀ i, i < a → x' 23 i = x 23 i) ∧ x' 24 0 = iI (w_sum (x 5) 8) := by
  intro t
  induction t with
  | zero =>
    intro fuel a x ha hf hs
    obtain rfl : a = 8 := by omega
    obtain ⟨fuel, rfl⟩ : ∃ z, fuel = z + 1 := ⟨fuel - 1, by omega⟩
    refine ⟨x, ?_, fun _ _ _ => rfl, fun i h1 h2 => by omega, fun _ _ => rfl, hs⟩
    show f_X1_take_L7F k (f_X1_take_L7 k fuel) (iI (8 : Nat)) x = _
    exact if_pos (by decide)
  | succ t ih =>
    intro fuel a x ha hf hs
    obtain ⟨fuel, rfl⟩ : ∃ z, fuel = z + 1 := ⟨fuel - 1, by omega⟩
    obtain ⟨x', e, b1, b2, b3, b4⟩ := ih fuel (a + 1) (q_up (q_up x 23 (upd (x 23) a (x 5 a))) 24 (fun _ => iI (w_sum (x 5) a) + x 5 a)) (by omega) (by omega) (by
      rw [q_up_s, q_up_n _ _ (by decide), q_up_n _ _ (by decide)]
      show _ = iI (w_sum (x 5) a + (x 5 a).toInt)
      rw [← iI_add, iI_self])
    refine ⟨x', ?_, fun c c1 c2 => ?_, fun i i1 i2 => ?_, fun i hi => ?_, ?_⟩
    · show f_X1_take_L7F k (f_X1_take_L7 k fuel) (iI a) x = _
      simp (disch := omega) only [f_X1_take_L7F, Int.toNat_natCast, hs, iI_lit, iI_neg, iI_lt, iI_le, iI_eq, iI_add, iI_sub, iI_mul, iI_cl, q_let_r, q_jn_r, q_b1_r, q_b2_r, q_b3_r, if_true, if_false, eq_self, q_gd_in, q_up_s, q_up_n, upd_s, upd_n, if_pos, if_neg]
      exact e
    · rw [b1 c c1 c2, q_up_n _ _ c2, q_up_n _ _ c1]
    · by_cases hi : i = a
      · subst hi; rw [b3 i (by omega), q_up_n _ _ (by decide), q_up_s]; exact upd_s _ _ _
      · rw [b2 i (by omega) i2, q_up_n _ _ (by decide), q_up_n _ _ (by decide)]
    · rw [b3 i (by omega), q_up_n _ _ (by decide), q_up_s]; exact upd_n _ _ (by omega)
    · rw [b4, q_up_n _ _ (by decide), q_up_n _ _ (by decide)]
theorem diceTake_s (x : IS) : ∃ x' : IS, f_X1_take x = some x' ∧ (∀ c, c ≠ 23 → c ≠ 24 → x' c = x c) ∧ (∀ i, i < 8 → x' 23 i = x 5 i) ∧ x' 24 0 = iI (w_sum (x 5) 8) := by
  obtain ⟨x', e, b1, b2, -, b4⟩ := dtL (fun x4 => some x4) 8 1000 0 (q_up x 24 (fun _ => (0 : Int32))) rfl (by omega) (by rw [q_up_s]; rfl)
  refine ⟨x', ?_, fun c c1 c2 => (b1 c c1 c2).trans (q_up_n _ _ c2), fun i hi => (b2 i (by omega) hi).trans (by rw [q_up_n _ _ (by decide)]), by rw [b4, q_up_n _ _ (by decide)]⟩
  unfold f_X1_take
  rw [q_let_r]
  exact e
theorem layW_s (x : IS) : ∃ x' : IS, f_X6_layWhatIsTold x = some x' ∧ (∀ c, c < 8 → x' c = x c) ∧ (∀ i, i < 48 → x' 8 i = x 3 i) ∧ (∀ i, i < 48 → x' 9 i = 0) ∧ (∀ i, i < 5 → x' 10 i = x 4 i) ∧ x' 13 0 = x 6 0 ∧ x' 14 0 = x 7 0 ∧ x' 15 0 = 1 ∧ (∀ i, i < 8 → x' 23 i = x 5 i) ∧ x' 24 0 = iI (w_sum (x 5) 8) ∧ x' 28 0 = 0 := by
  obtain ⟨x1, a0, a1, a2, a3, a4, a5, a6, a7⟩ := rowTake_s x
  obtain ⟨x2, b0, b1, b2, b3⟩ := diceTake_s x1
  have e5 : x1 5 = x 5 := a1 5 (by decide) (by decide) (by decide) (by decide) (by decide) (by decide)
  rw [e5] at b2 b3
  refine ⟨q_up x2 28 (fun _ => (0 : Int32)), ?_, fun c hc => ?_, fun i hi => ?_, fun i hi => ?_, fun i hi => ?_, ?_, ?_, ?_, fun i hi => ?_, ?_, by rw [q_up_s]⟩
  · unfold f_X6_layWhatIsTold
    refine (q_b1_s a0).trans ?_
    exact (q_b1_s b0).trans rfl
  · rw [q_up_n _ _ (by omega), b1 c (by omega) (by omega), a1 c (by omega) (by omega) (by omega) (by omega) (by omega) (by omega)]
  · rw [q_up_n _ _ (by decide), b1 8 (by decide) (by decide)]; exact a2 i hi
  · rw [q_up_n _ _ (by decide), b1 9 (by decide) (by decide)]; exact a3 i hi
  · rw [q_up_n _ _ (by decide), b1 10 (by decide) (by decide)]; exact a4 i hi
  · rw [q_up_n _ _ (by decide), b1 13 (by decide) (by decide)]; exact a5
  · rw [q_up_n _ _ (by decide), b1 14 (by decide) (by decide)]; exact a6
  · rw [q_up_n _ _ (by decide), b1 15 (by decide) (by decide)]; exact a7
  · rw [q_up_n _ _ (by decide)]; exact b2 i hi
  · rw [q_up_n _ _ (by decide)]; exact b3
theorem tkN {m : Nat} (hm : m ≤ 8) (k : IS → Option IS) : ∀ (t fuel a : Nat) (y : IS), a + t = 8 → t < fuel → y 3 0 = iI m → ∃ y' : IS, f_X7_takes_L18 k fuel (iI a) y = k y' ∧ (∀ c, c ≠ 4 → y' c = y c) ∧ (∀ i, a ≤ i → i < 8 → y' 4 i = if i < m then y 11 i else 0) ∧ ∀ i, i < a → y' 4 i = y 4 i := by
  intro t
  induction t with
  | zero =>
    intro fuel a y ha hf h3
    obtain rfl : a = 8 := by omega
    obtain ⟨fuel, rfl⟩ : ∃ z, fuel = z + 1 := ⟨fuel - 1, by omega⟩
    refine ⟨y, ?_, fun _ _ => rfl, fun i h1 h2 => by omega, fun _ _ => rfl⟩
    show f_X7_takes_L18F k (f_X7_takes_L18 k fuel) (iI (8 : Nat)) y = _
    exact if_pos (by decide)
  | succ t ih =>
    intro fuel a y ha hf h3
    obtain ⟨fuel, rfl⟩ : ∃ z, fuel = z + 1 := ⟨fuel - 1, by omega⟩
    obtain ⟨y', e, b1, b2, b3⟩ := ih fuel (a + 1) (q_up y 4 (upd (y 4) a (if a < m then y 11 a else 0))) (by omega) (by omega) (by rw [q_up_n _ _ (by decide)]; exact h3)
    refine ⟨y', ?_, fun c hc => (b1 c hc).trans (q_up_n _ _ hc), fun i i1 i2 => ?_, fun i hi => ?_⟩
    · show f_X7_takes_L18F k (f_X7_takes_L18 k fuel) (iI a) y = _
      by_cases ham : a < m
      · rw [if_pos ham] at e
        simp (disch := omega) only [f_X7_takes_L18F, Int.toNat_natCast, h3, iI_lit, iI_neg, iI_lt, iI_le, iI_eq, iI_add, iI_sub, iI_mul, iI_cl, q_let_r, q_jn_r, q_b1_r, q_b2_r, q_b3_r, if_true, if_false, eq_self, q_gd_in, q_up_s, q_up_n, upd_s, upd_n, if_pos, if_neg]
        exact e
      · rw [if_neg ham] at e
        simp (disch := omega) only [f_X7_takes_L18F, Int.toNat_natCast, h3, iI_lit, iI_neg, iI_lt, iI_le, iI_eq, iI_add, iI_sub, iI_mul, iI_cl, q_let_r, q_jn_r, q_b1_r, q_b2_r, q_b3_r, if_true, if_false, eq_self, q_gd_in, q_up_s, q_up_n, upd_s, upd_n, if_pos, if_neg]
        exact e
    · by_cases hi : i = a
      · subst hi; rw [b3 i (by omega), q_up_s]; exact upd_s _ _ _
      · rw [b2 i (by omega) i2, q_up_n _ _ (by decide)]
    · rw [b3 i (by omega), q_up_s]; exact upd_n _ _ (by omega)
theorem tkR (k : IS → Option IS) : ∀ (t fuel a : Nat) (y : IS), a + t = 102 → t < fuel → ∃ y' : IS, f_X7_takes_L56 k fuel (iI a) y = k y' ∧ (∀ c, c ≠ 5 → y' c = y c) ∧ (∀ i, a ≤ i → i < 102 → y' 5 i = y 10 i) ∧ ∀ i, i < a → y' 5 i = y 5 i := by
  intro t
  induction t with
  | zero =>
    intro fuel a y ha hf
    obtain rfl : a = 102 := by omega
    obtain ⟨fuel, rfl⟩ : ∃ z, fuel = z + 1 := ⟨fuel - 1, by omega⟩
    refine ⟨y, ?_, fun _ _ => rfl, fun i h1 h2 => by omega, fun _ _ => rfl⟩
    show f_X7_takes_L56F k (f_X7_takes_L56 k fuel) (iI (102 : Nat)) y = _
    exact if_pos (by decide)
  | succ t ih =>
    intro fuel a y ha hf
    obtain ⟨fuel, rfl⟩ : ∃ z, fuel = z + 1 := ⟨fuel - 1, by omega⟩
    obtain ⟨y', e, b1, b2, b3⟩ := ih fuel (a + 1) (q_up y 5 (upd (y 5) a (y 10 a))) (by omega) (by omega)
    refine ⟨y', ?_, fun c hc => (b1 c hc).trans (q_up_n _ _ hc), fun i i1 i2 => ?_, fun i hi => ?_⟩
    · show f_X7_takes_L56F k (f_X7_takes_L56 k fuel) (iI a) y = _
      simp (disch := omega) only [f_X7_takes_L56F, Int.toNat_natCast, iI_lit, iI_neg, iI_lt, iI_le, iI_eq, iI_add, iI_sub, iI_mul, iI_cl, q_let_r, q_jn_r, q_b1_r, q_b2_r, q_b3_r, if_true, if_false, eq_self, q_gd_in, q_up_s, q_up_n, upd_s, upd_n, if_pos, if_neg]
      exact e
    · by_cases hi : i = a
      · subst hi; rw [b3 i (by omega), q_up_s]; exact upd_s _ _ _
      · rw [b2 i (by omega) i2, q_up_n _ _ (by decide)]
    · rw [b3 i (by omega), q_up_s]; exact upd_n _ _ (by omega)
theorem takes_s {y : IS} {m : Nat} (hm : m ≤ 8) (h9 : y 9 0 = iI m) : ∃ y' : IS, f_X7_takes y = some y' ∧ (∀ c, c < 2 → y' c = y c) ∧ y' 2 0 = y 8 0 ∧ (∀ i, i < 8 → y' 4 i = if i < m then y 11 i else 0) ∧ (∀ i, i < 102 → y' 5 i = y 10 i) ∧ y' 7 0 = 0 := by
  obtain ⟨y1, a1, a2, a3, -⟩ := tkN hm (fun x5 =>
      f_X7_takes_L56 (fun x15 =>
          q_let (q_up x15 7 (fun _ => (0 : Int32))) fun x21 =>
          some x21) 1000 (0 : Int32) x5) 8 1000 0 (q_up (q_up y 2 (fun _ => y 8 0)) 3 (fun _ => y 9 0)) rfl (by omega) (by rw [q_up_s]; exact h9)
  obtain ⟨y2, b1, b2, b3, -⟩ := tkR (fun x15 =>
          q_let (q_up x15 7 (fun _ => (0 : Int32))) fun x21 =>
          some x21) 102 1000 0 y1 rfl (by omega)
  refine ⟨q_up y2 7 (fun _ => (0 : Int32)), ?_, fun c hc => ?_, ?_, fun i hi => ?_, fun i hi => ?_, by rw [q_up_s]⟩
  · unfold f_X7_takes
    rw [q_let_r, q_let_r, q_up_n _ _ (by decide)]
    refine Eq.trans a1 ?_
    exact b1
  · rw [q_up_n _ _ (by omega), b2 c (by omega), a2 c (by omega), q_up_n _ _ (by omega), q_up_n _ _ (by omega)]
  · rw [q_up_n _ _ (by decide), b2 2 (by decide), a2 2 (by decide), q_up_n _ _ (by decide), q_up_s]
  · rw [q_up_n _ _ (by decide), b2 4 (by decide), a3 i (by omega) hi, q_up_n _ _ (by decide), q_up_n _ _ (by decide)]
  · rw [q_up_n _ _ (by decide), b3 i (by omega) hi, a2 10 (by decide), q_up_n _ _ (by decide), q_up_n _ _ (by decide)]
theorem take_s {x y : IS} {c : Nat} (hT : w_T c x y) (hc : 1 ≤ c) (ht : q_It x y) : ∃ x' y' : IS, f_X6_layWhatIsTold x = some x' ∧ f_X7_takes y = some y' ∧ x' 13 0 = iI c ∧ y' 2 0 = iI c ∧ ∀ j, q_I x' j y' := by
  obtain ⟨⟨c48, h6, h8, hcs, hz⟩, hTl, ⟨m1, m2, m3⟩, m, m8, h9, d1, d2, d3, d4⟩ := hT
  obtain ⟨x', a0, a1, a2, a3, a4, a5, a6, a7, a8, a9, a10⟩ := layW_s x
  obtain ⟨y', b0, b1, b2, b3, b4, b5⟩ := takes_s m8 h9
  have e13 : x' 13 0 = iI c := a5.trans h6
  have e2 : y' 2 0 = iI c := b2.trans h8
  have e4 : ∀ v, v < 8 → y' 4 v = x 5 v := fun v hv => by rw [b3 v hv, d1 v hv]
  refine ⟨x', y', a0, b0, e13, e2, fun j => ⟨?_, c, ⟨hc, c48, e13, e2, ⟨fun k hk => ?_, fun k hk => ?_, fun k hk => ?_, ?_⟩, fun k hk => ?_⟩, ⟨0, by omega, a10, b5, fun i hi => by omega⟩, ⟨fun v hv => ?_, ?_, ?_, ?_⟩, Or.inr a7, fun h => ?_⟩⟩
  · obtain ⟨len, l1, l2, l3, l4⟩ := ht
    exact ⟨len, l1, by rw [a1 2 (by decide)]; exact l2, by rw [b1 0 (by decide)]; exact l3, fun k hk => by rw [a1 0 (by decide), b1 1 (by decide)]; exact l4 k hk⟩
  · rw [b4 k (by omega)]; exact (hcs k hk).2
  · left; rw [b4 (48 + k) (by omega)]; exact hz _ (by omega) (by omega)
  · rw [b4 (96 + k) (by omega)]; exact (hTl k hk).2
  · rw [b4 101 (by omega)]; exact ⟨m2, m3⟩
  · rcases hk with hk | ⟨k1, k2⟩ | ⟨k1, k2⟩
    · rw [b4 k (by omega)]
      unfold w_row
      rw [if_pos (by omega), a2 k (by omega)]; exact (hcs k hk).1
    · rw [b4 k (by omega), hz k (by omega) (by omega)]
      unfold w_row
      rw [if_neg (by omega), if_pos (by omega)]; exact a3 _ (by omega)
    · rw [b4 k (by omega)]
      unfold w_row
      rw [if_neg (by omega), if_neg (by omega)]
      by_cases hk : k < 101
      · rw [if_pos hk, a4 _ (by omega)]
        have := (hTl (k - 96) (by omega)).1
        rw [show 96 + (k - 96) = k by omega] at this
        exact this
      · obtain rfl : k = 101 := by omega
        rw [if_neg hk, a6]; exact m1
  · rw [a8 v hv, e4 v hv]; exact ⟨rfl, d2 v hv⟩
  · rw [a9, w_sum_c 8 e4]
  · rw [w_sum_c 8 e4]; exact d3
  · rw [w_sum_c 8 e4]; exact d4
  · rw [a7] at h; exact absurd h (by decide)
theorem qt_lay : qs_lay q_I := by
  intro x j y hI
  obtain ⟨r, x1, y1, a1, a2, a3, a4, r1, r2, hT, a5⟩ := read_s hI.1
  have hI1 : q_I x1 j y1 := q_I_text hI a5 (fun c hc => a3 c (by omega)) (fun c h1 h2 => a4 c (by omega))
  by_cases hr : r = -4
  · subst hr
    obtain ⟨c, hT⟩ := hT rfl
    have h6 := hT.1.2.1
    have h8 := hT.1.2.2.1
    have c48 := hT.1.1
    by_cases hc : c = 0
    · subst hc
      refine ⟨-2, x1, y1, ?_, ?_, hI1⟩
      · unfold f_X6_lay
        refine (q_b2_s a1).trans ?_
        rw [if_pos (by decide), if_pos (by rw [h6]; decide)]
      · unfold f_X7_lay
        refine (q_b2_s a2).trans ?_
        rw [if_pos (by decide), if_pos (by rw [h8]; decide)]
    · obtain ⟨x', y', b1, b2, b3, b4, b5⟩ := take_s hT (by omega) a5
      have hne : ¬ iI (c : Int) = 0 := by rw [show (0 : Int32) = iI 0 from rfl, iI_eq (by omega) (by omega) (by omega) (by omega)]; omega
      refine ⟨iI c, x', y', ?_, ?_, b5 j⟩
      · unfold f_X6_lay
        refine (q_b2_s a1).trans ?_
        rw [if_pos (by decide), if_neg (by rw [h6]; exact hne)]
        refine (q_b1_s b1).trans ?_
        rw [b3]
      · unfold f_X7_lay
        refine (q_b2_s a2).trans ?_
        rw [if_pos (by decide), if_neg (by rw [h8]; exact hne)]
        refine (q_b1_s b2).trans ?_
        rw [b4]
  · have hne : ¬ iI r = -4 := by rw [show (-4 : Int32) = iI (-4) by decide, iI_eq (by omega) (by omega) (by omega) (by omega)]; omega
    refine ⟨-2, x1, y1, ?_, ?_, hI1⟩
    · unfold f_X6_lay
      refine (q_b2_s a1).trans ?_
      rw [if_neg hne]
    · unfold f_X7_lay
      refine (q_b2_s a2).trans ?_
      rw [if_neg hne]
/-! the start -/
theorem adds_s {y : IS} {c : Nat} (hc : c ≤ 40) (h8 : y 8 0 = iI c) {a1 a2 a3 a4 : Int32} (h : ∀ i, i < c → y 10 i = q_FC i) (e1 : a1 = q_FC c) (e2 : a2 = q_FC (c + 1)) (e3 : a3 = q_FC (c + 2)) (e4 : a4 = q_FC (c + 3)) :
    ∃ y' : IS, f_X7_adds y a1 a2 a3 a4 = some y' ∧ y' 8 0 = iI ((c + 4 : Nat) : Int) ∧ (∀ i, i < c + 4 → y' 10 i = q_FC i) ∧ (∀ i, 48 ≤ i → y' 10 i = y 10 i) ∧ ∀ k, k ≠ 8 → k ≠ 10 → y' k = y k := by
  have t0 : ((c : Int)).toNat = c := by omega
  have t1 : ((c : Int) + 1).toNat = c + 1 := by omega
  have t2 : ((c : Int) + 2).toNat = c + 2 := by omega
  have t3 : ((c : Int) + 3).toNat = c + 3 := by omega
  have q : f_X7_adds y a1 a2 a3 a4 = some (q_up (q_up (q_up (q_up (q_up y 10 (upd (y 10) c a1)) 10 (upd (upd (y 10) c a1) (c + 1) a2)) 10 (upd (upd (upd (y 10) c a1) (c + 1) a2) (c + 2) a3)) 10 (upd (upd (upd (upd (y 10) c a1) (c + 1) a2) (c + 2) a3) (c + 3) a4)) 8 (fun _ => iI ((c : Int) + 4))) := by
    simp (disch := omega) only [f_X7_adds, h8, t0, t1, t2, t3, iI_lit, iI_neg, iI_lt, iI_le, iI_eq, iI_add, iI_sub, iI_mul, iI_cl, q_let_r, q_jn_r, q_b1_r, q_b2_r, q_b3_r, if_true, if_false, eq_self, q_gd_in, q_up_s, q_up_n, upd_s, upd_n, if_pos, if_neg]
  refine ⟨_, q, by rw [q_up_s]; rfl, fun i hi => ?_, fun i hi => ?_, fun k k1 k2 => ?_⟩
  · rw [q_up_n _ _ (by decide), q_up_s]
    by_cases i3 : i = c + 3
    · subst i3; rw [upd_s]; exact e4
    · rw [upd_n _ _ i3]
      by_cases i2 : i = c + 2
      · subst i2; rw [upd_s]; exact e3
      · rw [upd_n _ _ i2]
        by_cases i1 : i = c + 1
        · subst i1; rw [upd_s]; exact e2
        · rw [upd_n _ _ i1]
          by_cases i0 : i = c
          · subst i0; rw [upd_s]; exact e1
          · rw [upd_n _ _ i0]; exact h i (by omega)
  · rw [q_up_n _ _ (by decide), q_up_s, upd_n _ _ (by omega), upd_n _ _ (by omega), upd_n _ _ (by omega), upd_n _ _ (by omega)]
  · rw [q_up_n _ _ k1, q_up_n _ _ k2, q_up_n _ _ k2, q_up_n _ _ k2, q_up_n _ _ k2]
theorem addS_s {x : IS} (h6 : x 6 0 = 0) : f_X5_addCells__S x 20 = some (1, q_up (q_up x 3 (va_cpy q_FC (x 3) 0 0 20)) 6 (fun _ => (20 : Int32))) := by
  have e0 : (0 : Int32).toNatClampNeg = 0 := by decide
  have e20 : (20 : Int32).toNatClampNeg = 20 := by decide
  have e00 : (0 : Int32) + 20 = 20 := by decide
  unfold f_X5_addCells__S
  rw [if_neg (by decide), if_neg (by decide), h6, if_pos (by decide), q_gd_t (by decide), q_let_r, q_let_r, q_up_n _ _ (by decide), h6, e0, e20, e00]
theorem qt_init : qs_init q_I := by
  obtain ⟨x1, a1, a2, a3, a4, a5, a6, -⟩ := startAnew_s (fun _ _ => 0)
  obtain ⟨y0, b1, b2, b3, b4, b5, b6, b7, b8⟩ := clears_s (fun _ _ => 0)
  obtain ⟨x1', y0', g1, g2, hT, -, -⟩ := begin_s (fun _ _ => 0) (fun _ _ => 0)
  obtain rfl : x1 = x1' := Option.some.inj (a1.symm.trans g1)
  obtain rfl : y0 = y0' := Option.some.inj (b1.symm.trans g2)
  obtain ⟨y1, c1, c2, c3, c4, c5⟩ := adds_s (y := y0) (c := 0) (a1 := 3) (a2 := 1) (a3 := 4) (a4 := 1) (by omega) b3 (fun i hi => by omega) (by decide) (by decide) (by decide) (by decide)
  obtain ⟨y2, d1, d2, d3, d4, d5⟩ := adds_s (y := y1) (c := 4) (a1 := 5) (a2 := 40) (a3 := 6) (a4 := 2) (by omega) c2 c3 (by decide) (by decide) (by decide) (by decide)
  obtain ⟨y3, e1, e2, e3, e4, e5⟩ := adds_s (y := y2) (c := 8) (a1 := 3) (a2 := 1) (a3 := 9) (a4 := 7) (by omega) d2 d3 (by decide) (by decide) (by decide) (by decide)
  obtain ⟨y4, f1, f2, f3, f4, f5⟩ := adds_s (y := y3) (c := 12) (a1 := 50) (a2 := 48) (a3 := 5) (a4 := 3) (by omega) e2 e3 (by decide) (by decide) (by decide) (by decide)
  obtain ⟨y5, k1, k2, k3, k4, k5⟩ := adds_s (y := y4) (c := 16) (a1 := 2) (a2 := 1) (a3 := 6) (a4 := 20) (by omega) f2 f3 (by decide) (by decide) (by decide) (by decide)
  have fr : ∀ k, k ≠ 8 → k ≠ 10 → y5 k = y0 k := fun k h1 h2 => by rw [k5 k h1 h2, f5 k h1 h2, e5 k h1 h2, d5 k h1 h2, c5 k h1 h2]
  have fr10 : ∀ i, 48 ≤ i → y5 10 i = y0 10 i := fun i hi => by rw [k4 i hi, f4 i hi, e4 i hi, d4 i hi, c4 i hi]
  have rg : ∀ i, i < 20 → 0 ≤ (q_FC i).toInt ∧ (q_FC i).toInt ≤ 99 := by decide +kernel
  obtain ⟨⟨-, -, -, -, hz⟩, hTl, hTm, hTd⟩ := hT
  have hT2 : w_T 20 (q_up (q_up x1 3 (va_cpy q_FC (x1 3) 0 0 20)) 6 (fun _ => (20 : Int32))) y5 := by
    refine ⟨⟨by omega, by rw [q_up_s]; rfl, k2, fun i hi => ?_, fun i i1 i2 => by rw [fr10 i i1]; exact hz i i1 i2⟩, ?_, ?_, ?_⟩
    · rw [q_up_n _ _ (by decide), q_up_s, va_cpy_in (by omega) (by omega), Nat.zero_add, Nat.sub_zero, k3 i (by omega)]
      exact ⟨rfl, rg i hi⟩
    · exact w_Tl_k hTl (by rw [q_up_n _ _ (by decide), q_up_n _ _ (by decide)]) (fun k hk => fr10 _ (by omega))
    · exact w_Tm_k hTm (by rw [q_up_n _ _ (by decide), q_up_n _ _ (by decide)]) (fr10 _ (by omega))
    · exact w_Td_k hTd (by rw [q_up_n _ _ (by decide), q_up_n _ _ (by decide)]) (fr 9 (by decide) (by decide)) (fr 11 (by decide) (by decide))
  obtain ⟨x', y', m1, m2, -, -, m5⟩ := take_s hT2 (by omega) ⟨0, by omega, by rw [q_up_n _ _ (by decide), q_up_n _ _ (by decide), a2 2 (by omega)]; rfl, by rw [fr 0 (by decide) (by decide), b2 0 (by omega)]; rfl, fun k hk => by omega⟩
  refine ⟨x', y', ?_, ?_, m5 _⟩
  · unfold f_X6_tail
    refine (q_b1_s a1).trans ?_
    refine (q_b2_s (addS_s a3)).trans ?_
    exact (q_b1_s m1).trans rfl
  · unfold f_X7_tail
    refine (q_b1_s b1).trans ?_
    refine (q_b1_s c1).trans ?_
    refine (q_b1_s d1).trans ?_
    refine (q_b1_s e1).trans ?_
    refine (q_b1_s f1).trans ?_
    refine (q_b1_s k1).trans ?_
    exact (q_b1_s m2).trans rfl
end
