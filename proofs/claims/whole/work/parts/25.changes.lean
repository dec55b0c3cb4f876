section
theorem w_V_c {n : Nat} {f g : Nat → Int32} (hn : n ≤ 48) (h : w_V n f) (e : ∀ k, w_pl n k → g k = f k) : w_V n g := by
  obtain ⟨h1, h2, h3, h4⟩ := h
  refine ⟨fun k hk => ?_, fun k hk => ?_, fun k hk => ?_, ?_⟩
  · rw [e k (Or.inl hk)]; exact h1 k hk
  · rw [e (48 + k) (Or.inr (Or.inl ⟨by omega, by omega⟩))]; exact h2 k hk
  · rw [e (96 + k) (Or.inr (Or.inr ⟨by omega, by omega⟩))]; exact h3 k hk
  · rw [e 101 (Or.inr (Or.inr ⟨by omega, by omega⟩))]; exact h4
theorem w_pl_102 {n k : Nat} (hn : n ≤ 48) (h : w_pl n k) : k < 102 := by
  rcases h with h | ⟨_, h⟩ | ⟨_, h⟩ <;> omega
theorem w_U_c {n : Nat} {kd pl v : Int32} {F G F' G' : Nat → Int32} (hn1 : 1 ≤ n) (hn : n ≤ 48) (h : w_U n kd pl v F G) (eF : ∀ k, w_pl n k → F' k = F k) (eG : ∀ k, w_pl n k → G' k = G k) : w_U n kd pl v F' G' := by
  obtain ⟨hV, h⟩ := h
  refine ⟨w_V_c hn hV eG, ?_⟩
  rcases h with ⟨a, b, hb, c, d, e⟩ | ⟨a, b, hb, c, d, e⟩ | ⟨a, b, hb, c, d, e⟩ | ⟨a, d, e⟩ | ⟨a, c, d, e, f⟩
  · exact Or.inl ⟨a, b, hb, c, by rw [eG b (Or.inl hb)]; exact d, fun k hk hne => by rw [eG k hk, eF k hk]; exact e k hk hne⟩
  · exact Or.inr (Or.inl ⟨a, b, hb, c, by rw [eG (48 + b) (Or.inr (Or.inl ⟨by omega, by omega⟩))]; exact d, fun k hk hne => by rw [eG k hk, eF k hk]; exact e k hk hne⟩)
  · exact Or.inr (Or.inr (Or.inl ⟨a, b, hb, c, by rw [eG (96 + b) (Or.inr (Or.inr ⟨by omega, by omega⟩))]; exact d, fun k hk hne => by rw [eG k hk, eF k hk]; exact e k hk hne⟩))
  · exact Or.inr (Or.inr (Or.inr (Or.inl ⟨a, by rw [eG 101 (Or.inr (Or.inr ⟨by omega, by omega⟩))]; exact d, fun k hk hne => by rw [eG k hk, eF k hk]; exact e k hk hne⟩)))
  · refine Or.inr (Or.inr (Or.inr (Or.inr ⟨a, ?_, ?_, fun k hk => ?_, fun k hk hk2 => ?_⟩)))
    · rw [eG 0 (Or.inl (by omega))]; exact c
    · rw [eG 48 (Or.inr (Or.inl ⟨by omega, by omega⟩))]; exact d
    · rw [eG (k + 1) (Or.inl (by omega)), eF k (Or.inl (by omega)), eG (48 + (k + 1)) (Or.inr (Or.inl ⟨by omega, by omega⟩)), eF (48 + k) (Or.inr (Or.inl ⟨by omega, by omega⟩))]; exact e k hk
    · rw [eG k (Or.inr (Or.inr ⟨by omega, by omega⟩)), eF k (Or.inr (Or.inr ⟨by omega, by omega⟩))]; exact f k hk hk2
theorem w_S_lt {y : IS} {p i : Nat} (h : i < p) (k : Nat) : w_S y p i k = y 6 (102 * i + k) := by unfold w_S; rw [if_pos h]
theorem w_S_ge {y : IS} {p i : Nat} (h : p ≤ i) : w_S y p i = y 5 := by unfold w_S; rw [if_neg (by omega)]
theorem w_push {n p q : Nat} {x y x1 y1 : IS} {kd pl v : Int32} (hn1 : 1 ≤ n) (hn : n ≤ 48) (hp : p ≤ 6) (ch : ∀ i, i < p → w_U n (x 25 i) (x 26 i) (x 27 i) (w_S y p (i + 1)) (w_S y p i)) (hq : q = min p 5)
    (k3 : ∀ i, i < q → x1 25 i = x 25 (i + (p - q)) ∧ x1 26 i = x 26 (i + (p - q)) ∧ x1 27 i = x 27 (i + (p - q))) (k4 : x1 25 q = kd ∧ x1 26 q = pl ∧ x1 27 q = v)
    (m1 : ∀ i, i < q → ∀ k, k < 102 → y1 6 (102 * i + k) = y 6 (102 * (i + (p - q)) + k)) (m2 : ∀ k, k < 102 → y1 6 (102 * q + k) = y 5 k) (hU : w_U n kd pl v (y1 5) (y 5)) :
    ∀ i, i < q + 1 → w_U n (x1 25 i) (x1 26 i) (x1 27 i) (w_S y1 (q + 1) (i + 1)) (w_S y1 (q + 1) i) := by
  intro i hi
  by_cases hiq : i = q
  · subst hiq
    rw [k4.1, k4.2.1, k4.2.2, w_S_ge (Nat.le_refl (i + 1))]
    exact w_U_c hn1 hn hU (fun _ _ => rfl) (fun k hk => by rw [w_S_lt (by omega)]; exact m2 k (w_pl_102 hn hk))
  · obtain ⟨c1, c2, c3⟩ := k3 i (by omega)
    rw [c1, c2, c3]
    refine w_U_c hn1 hn (ch (i + (p - q)) (by omega)) (fun k hk => ?_) (fun k hk => ?_)
    · have hk2 := w_pl_102 hn hk
      rw [w_S_lt (by omega)]
      by_cases h2 : i + 1 = q
      · rw [h2, m2 k hk2, w_S_ge (by omega)]
      · rw [m1 (i + 1) (by omega) k hk2, w_S_lt (by omega), show i + 1 + (p - q) = i + (p - q) + 1 by omega]
    · have hk2 := w_pl_102 hn hk
      rw [w_S_lt (by omega), w_S_lt (by omega)]
      exact m1 i (by omega) k hk2
/-- a change of the row: what else is to be shown -/
theorem w_change {x y x2 y2 : IS} {j : JS} {n : Nat} (hI : q_I x j y) (hr0 : q_Ir n x y) (hx : ∀ c, c < 25 → c ≠ 8 → c ≠ 9 → c ≠ 10 → c ≠ 14 → c ≠ 15 → x2 c = x c) (hy : ∀ c, c ≠ 5 → c ≠ 6 → c ≠ 7 → y2 c = y c) (h15 : x2 15 0 = 1) (hV : w_V n (y2 5)) (hw : ∀ k, w_pl n k → w_row x2 k = y2 5 k) (hp : q_Ip n x2 y2) : q_I x2 j y2 := by
  obtain ⟨ht, m, hr, -, hd, hc⟩ := hI
  refine ⟨?_, n, ?_, hp, ?_, ?_⟩
  · obtain ⟨len, h1, h2, h3, h4⟩ := ht
    exact ⟨len, h1, by rw [hx 2 (by decide) (by decide) (by decide) (by decide) (by decide) (by decide)]; exact h2, by rw [hy 0 (by decide) (by decide) (by decide)]; exact h3, fun k hk => by rw [hx 0 (by decide) (by decide) (by decide) (by decide) (by decide) (by decide), hy 1 (by decide) (by decide) (by decide)]; exact h4 k hk⟩
  · obtain ⟨h1, h2, h3, h4, -, -⟩ := hr0
    exact ⟨h1, h2, by rw [hx 13 (by decide) (by decide) (by decide) (by decide) (by decide) (by decide)]; exact h3, by rw [hy 2 (by decide) (by decide) (by decide)]; exact h4, hV, hw⟩
  · obtain ⟨h1, h2, h3⟩ := hd
    unfold q_Id
    rw [hx 23 (by decide) (by decide) (by decide) (by decide) (by decide) (by decide), hx 24 (by decide) (by decide) (by decide) (by decide) (by decide) (by decide), hy 4 (by decide) (by decide) (by decide)]
    exact ⟨h1, h2, h3⟩
  · refine ⟨Or.inr h15, fun h => ?_⟩
    rw [h15] at h
    exact absurd h (by decide)
theorem w_row_p (x : IS) {k : Nat} (h : k < 48) : w_row x k = x 8 k := if_pos h
theorem w_row_l (x : IS) {k : Nat} (h : k < 48) : w_row x (48 + k) = x 9 k := by
  unfold w_row
  rw [if_neg (by omega), if_pos (by omega), Nat.add_sub_cancel_left]
theorem w_row_k (x : IS) {k : Nat} (h : k < 5) : w_row x (96 + k) = x 10 k := by
  unfold w_row
  rw [if_neg (by omega), if_neg (by omega), if_pos (by omega), Nat.add_sub_cancel_left]
theorem w_row_m (x : IS) : w_row x 101 = x 14 0 := rfl
/-- power, leave, look, mode on the reference's side -/
theorem becomes_no {y : IS} {a : Int} {v : Int32} (h0 : 0 ≤ a) (h1 : a < 102) (hv : y 5 a.toNat = v) : f_X7_becomes y (iI a) v = some (iI (-2), y) := by
  simp (disch := omega) only [f_X7_becomes, hv, iI_lit, iI_neg, iI_lt, iI_le, iI_eq, iI_add, iI_sub, iI_mul, iI_cl, q_let_r, q_jn_r, q_b1_r, q_b2_r, q_b3_r, if_true, if_false, eq_self, q_gd_in, q_up_s, q_up_n, upd_s, upd_n, if_pos, if_neg]
theorem becomes_s {y : IS} {p : Nat} {a : Int} {v : Int32} (hp : p ≤ 6) (h7 : y 7 0 = iI p) (h0 : 0 ≤ a) (h1 : a < 102) (hv : ¬ y 5 a.toNat = v) : ∃ (y' : IS) (q : Nat), f_X7_becomes y (iI a) v = some (y 5 a.toNat, y') ∧ q = min p 5 ∧ (∀ c, c ≠ 5 → c ≠ 6 → c ≠ 7 → y' c = y c) ∧ y' 5 = upd (y 5) a.toNat v ∧ y' 7 0 = iI ((q : Int) + 1) ∧ (∀ i, i < q → ∀ k, k < 102 → y' 6 (102 * i + k) = y 6 (102 * (i + (p - q)) + k)) ∧ ∀ k, k < 102 → y' 6 (102 * q + k) = y 5 k := by
  obtain ⟨y1, q, e, hq, a1, a2, a3, a4⟩ := keeps_s hp h7
  refine ⟨q_up y1 5 (upd (y 5) a.toNat v), q, ?_, hq, fun c h5 h6 h7 => ?_, ?_, ?_, fun i hi k hk => ?_, fun k hk => ?_⟩
  · simp (disch := omega) only [f_X7_becomes, hv, q_b1_s e, a1, iI_lit, iI_neg, iI_lt, iI_le, iI_eq, iI_add, iI_sub, iI_mul, iI_cl, q_let_r, q_jn_r, q_b1_r, q_b2_r, q_b3_r, if_true, if_false, eq_self, q_gd_in, q_up_s, q_up_n, upd_s, upd_n, if_pos, if_neg]
  · rw [q_up_n _ _ h5]; exact a1 c h6 h7
  · rw [q_up_s]
  · rw [q_up_n _ _ (by decide)]; exact a2
  · rw [q_up_n _ _ (by decide)]; exact a3 i hi k hk
  · rw [q_up_n _ _ (by decide)]; exact a4 k hk
end
