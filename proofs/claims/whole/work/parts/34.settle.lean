section
def w_C (i n : Nat) (x : IS) (f : Nat → Int32) : Prop :=
  (∀ k, k < i → x 16 k = w_floor n f k) ∧ (∀ k, k < i → x 17 k = if w_al n f k = true then iI (w_bs (w_al n f) (k + 1) - 1) else -4) ∧
  x 21 0 = iI (w_ca (w_al n f) i) ∧ x 22 0 = iI (w_bs (w_al n f) i) ∧
  ∀ b, b < w_bs (w_al n f) i → ∃ s e q : Nat, w_B (w_al n f) i b s e ∧ w_P f s e q ∧ x 18 b = iI s ∧ x 19 b = iI e ∧ x 20 b = iI q
theorem w_vw_c2 {n : Nat} {x x' : IS} {f : Nat → Int32} {wo : Int} (h : w_vw n x f wo) (hx : ∀ c, (c < 11 ∨ (12 < c ∧ c < 16) ∨ 22 < c) → c ≠ 15 → x' c = x c) : w_vw n x' f wo := by
  unfold w_vw
  rw [hx 13 (by omega) (by decide), hx 9 (by omega) (by decide), hx 8 (by omega) (by decide), hx 10 (by omega) (by decide), hx 14 (by omega) (by decide)]
  exact h
theorem w_ca_le (al : Nat → Bool) : ∀ n, w_ca al n ≤ n
  | 0 => Nat.le_refl _
  | n + 1 => by
    have := w_ca_le al n
    show w_ca al n + _ ≤ _
    split <;> omega
theorem w_B_grow {al : Nat → Bool} {i b s e : Nat} (h : w_B al i b s e) (hne : e + 1 = i → al i = false) : w_B al (i + 1) b s e := by
  obtain ⟨h1, h2, h3, h4, h5, h6⟩ := h
  refine ⟨h1, by omega, h3, h4, ?_, h6⟩
  rcases h5 with h5 | h5
  · exact Or.inr (by rw [h5]; exact hne h5)
  · exact Or.inr h5
set_option maxHeartbeats 1000000 in
theorem settleL {n : Nat} {f : Nat → Int32} (k : IS → Option IS) : ∀ (t fuel i : Nat) (x : IS), i + t = n → t < fuel → w_vw n x f (-4) → w_C i n x f → ∃ x', f_X0_settle_L25 k fuel (iI i) x = k x' ∧ (∀ c, (c < 11 ∨ (12 < c ∧ c < 16) ∨ 22 < c) → x' c = x c) ∧ w_C n n x' f := by
  intro t
  induction t with
  | zero =>
    intro fuel i x h1 h2 hv hC
    obtain ⟨fuel, rfl⟩ : ∃ z, fuel = z + 1 := ⟨fuel - 1, by omega⟩
    obtain rfl : i = n := by omega
    refine ⟨x, ?_, fun _ _ => rfl, hC⟩
    show f_X0_settle_L25F k (f_X0_settle_L25 k fuel) (iI i) x = _
    have := hv.2.1
    simp (disch := omega) only [f_X0_settle_L25F, hv.1, iI_lit, iI_neg, iI_lt, iI_le, iI_eq, iI_add, iI_sub, iI_mul, iI_cl, q_let_r, q_jn_r, q_b1_r, q_b2_r, q_b3_r, if_true, if_false, eq_self, q_gd_in, q_up_s, q_up_n, upd_s, upd_n, if_pos, if_neg]
  | succ t ih =>
    intro fuel i x h1 h2 hv hC
    obtain ⟨fuel, rfl⟩ : ∃ z, fuel = z + 1 := ⟨fuel - 1, by omega⟩
    have hin : i < n := by omega
    have n2 := hv.2.1
    obtain ⟨x1, e1, p1⟩ := floorOf_s hv hin
    obtain ⟨x3, hx3⟩ : ∃ x3, x3 = q_up (q_up x1 16 (upd (x1 16) i (w_floor n f i))) 17 (upd (x1 17) i (iI (-4))) := ⟨_, rfl⟩
    have x3c : ∀ c, c ≠ 11 → c ≠ 12 → c ≠ 16 → c ≠ 17 → x3 c = x c := fun c a b c' d => by rw [hx3, q_up_n _ _ d, q_up_n _ _ c']; exact p1 c a b
    have x316 : x3 16 = upd (x 16) i (w_floor n f i) := by rw [hx3, q_up_n _ _ (by decide), q_up_s, p1 16 (by decide) (by decide)]
    have x317 : x3 17 = upd (x 17) i (iI (-4)) := by rw [hx3, q_up_s, p1 17 (by decide) (by decide)]
    have hv3 : w_vw n x3 f (-4) := w_vw_c2 hv (fun c hc _ => x3c c (by omega) (by omega) (by omega) (by omega))
    have e3 : x3 10 3 = f 99 := hv3.2.2.2.2.1 3 (by omega)
    have hz := (hv3.2.2.2.1 i hin).1
    have ho : f_X3_outdoes x3 (iI i) (w_floor n f i) (f 99) = some (if w_al n f i = true then iI 1 else iI 0) := by
      rw [outdoes_s hv3 hin]
      congr 1
      unfold w_al
      by_cases h : f (48 + i) = 0 ∧ w_floor n f i ≠ -4 ∧ f 99 * w_floor n f i < f 100 * f i
      · rw [if_pos ⟨(hz.mp h.1).1, h.2⟩, if_pos (decide_eq_true h)]
      · rw [if_neg (fun h2 => h ⟨hz.mpr ⟨h2.1, by omega⟩, h2.2⟩), if_neg (fun h2 => h (of_decide_eq_true h2))]
    have t3 : (3 : Int).toNat = 3 := rfl
    -- the step, down to what comes of an alarm
    have step : f_X0_settle_L25 k (fuel + 1) (iI i) x = (if w_al n f i = true then q_b1 (f_X0_addToBunch (q_up x3 21 (fun _ => x3 21 0 + iI 1)) (iI i)) (fun x24 => f_X0_settle_L25 k fuel (iI ((i : Int) + 1)) x24) else f_X0_settle_L25 k fuel (iI ((i : Int) + 1)) x3) := by
      show f_X0_settle_L25F k (f_X0_settle_L25 k fuel) (iI i) x = _
      by_cases ha : w_al n f i = true
      · rw [if_pos ha] at ho ⊢
        rw [hx3] at ho e3
        simp (disch := omega) only [f_X0_settle_L25F, hv.1, e1, Int.toNat_natCast, t3, hx3, iI_lit, iI_neg, iI_lt, iI_le, iI_eq, iI_add, iI_sub, iI_mul, iI_cl, q_let_r, q_jn_r, q_b1_r, q_b2_r, q_b3_r, if_true, if_false, eq_self, q_gd_in, q_up_s, q_up_n, upd_s, upd_n, if_pos, if_neg] at ho e3 ⊢
        simp (disch := omega) only [e3, ho, iI_lit, iI_neg, iI_lt, iI_le, iI_eq, iI_add, iI_sub, iI_mul, iI_cl, q_let_r, q_jn_r, q_b1_r, q_b2_r, q_b3_r, if_true, if_false, eq_self, q_gd_in, q_up_s, q_up_n, upd_s, upd_n, if_pos, if_neg]
      · rw [if_neg ha] at ho ⊢
        rw [hx3] at ho e3
        simp (disch := omega) only [f_X0_settle_L25F, hv.1, e1, Int.toNat_natCast, t3, hx3, iI_lit, iI_neg, iI_lt, iI_le, iI_eq, iI_add, iI_sub, iI_mul, iI_cl, q_let_r, q_jn_r, q_b1_r, q_b2_r, q_b3_r, if_true, if_false, eq_self, q_gd_in, q_up_s, q_up_n, upd_s, upd_n, if_pos, if_neg] at ho e3 ⊢
        simp (disch := omega) only [e3, ho, iI_lit, iI_neg, iI_lt, iI_le, iI_eq, iI_add, iI_sub, iI_mul, iI_cl, q_let_r, q_jn_r, q_b1_r, q_b2_r, q_b3_r, if_true, if_false, eq_self, q_gd_in, q_up_s, q_up_n, upd_s, upd_n, if_pos, if_neg]
    rw [step]
    obtain ⟨C1, C2, C3, C4, C5⟩ := hC
    have hB := w_bs_le (w_al n f) i
    by_cases ha : w_al n f i = true
    · rw [if_pos ha]
      obtain ⟨x4, hx4⟩ : ∃ x4, x4 = q_up x3 21 (fun _ => x3 21 0 + iI 1) := ⟨_, rfl⟩
      rw [← hx4]
      have x4c : ∀ c, c ≠ 21 → x4 c = x3 c := fun c h => by rw [hx4, q_up_n _ _ h]
      have x421 : x4 21 0 = iI (w_ca (w_al n f) (i + 1)) := by
        rw [hx4, q_up_s, x3c 21 (by decide) (by decide) (by decide) (by decide), C3, iI_add]
        show _ = iI ((w_ca (w_al n f) i + (if w_al n f i = true then 1 else 0) : Nat) : Int)
        rw [if_pos ha]; rfl
      have x422 : x4 22 0 = iI (w_bs (w_al n f) i) := by rw [x4c 22 (by decide), x3c 22 (by decide) (by decide) (by decide) (by decide)]; exact C4
      have x418 : x4 18 = x 18 := by rw [x4c 18 (by decide), x3c 18 (by decide) (by decide) (by decide) (by decide)]
      have x419 : x4 19 = x 19 := by rw [x4c 19 (by decide), x3c 19 (by decide) (by decide) (by decide) (by decide)]
      have x420 : x4 20 = x 20 := by rw [x4c 20 (by decide), x3c 20 (by decide) (by decide) (by decide) (by decide)]
      have x416 : x4 16 = upd (x 16) i (w_floor n f i) := by rw [x4c 16 (by decide)]; exact x316
      have x417 : x4 17 = upd (x 17) i (iI (-4)) := by rw [x4c 17 (by decide)]; exact x317
      have x48 : x4 8 = x 8 := by rw [x4c 8 (by decide), x3c 8 (by decide) (by decide) (by decide) (by decide)]
      -- what a next state must hold
      have fin : ∀ x5 : IS, (∀ c, (c < 11 ∨ (12 < c ∧ c < 16) ∨ 22 < c) → x5 c = x c) → w_C (i + 1) n x5 f → ∃ x', f_X0_settle_L25 k fuel (iI ((i : Int) + 1)) x5 = k x' ∧ (∀ c, (c < 11 ∨ (12 < c ∧ c < 16) ∨ 22 < c) → x' c = x c) ∧ w_C n n x' f := by
        intro x5 h5 hC5
        obtain ⟨x', e', q1, q2⟩ := ih fuel (i + 1) x5 (by omega) (by omega) (w_vw_c2 hv (fun c hc _ => h5 c hc)) hC5
        exact ⟨x', e', fun c hc => (q1 c hc).trans (h5 c hc), q2⟩
      by_cases hon : 0 < i ∧ w_al n f (i - 1) = true
      · -- the last bunch goes on
        have hbs : w_bs (w_al n f) (i + 1) = w_bs (w_al n f) i := w_bs_no (Or.inr hon)
        have hpos : 0 < w_bs (w_al n f) i := by
          have := w_bs_pos (al := w_al n f) (i - 1) hon.2
          rw [show i - 1 + 1 = i by omega] at this
          exact this
        obtain ⟨s, e, q, hBb, hP, g1, g2, g3⟩ := C5 (w_bs (w_al n f) i - 1) (by omega)
        have hend := w_B_end hBb
        have he : e + 1 = i := by
          rcases hBb.2.2.2.2.1 with h | h
          · exact h
          · have h8 := hBb.2.1
            by_cases h9 : e + 1 = i
            · exact h9
            · exfalso
              have := w_bs_skip h (i - 1) (by omega) hon.2
              rw [show i - 1 + 1 = i by omega, w_bs_no (Or.inl h), hend] at this
              omega
        have hq48 : q < 48 := by have := hP.2.1; omega
        obtain ⟨x5, e5, r1, r2, r3, r4⟩ := addOn (x := x4) (i := i) (B := w_bs (w_al n f) i) (q := q) (by omega) (by omega) (by omega) (by omega) x422 (by rw [x419, g2]; rw [show (e : Int) = (i : Int) - 1 by omega]) (by rw [x420]; exact g3) hq48
        rw [q_b1_s e5]
        refine fin x5 (fun c hc => ?_) ⟨fun k hk => ?_, fun k hk => ?_, ?_, ?_, fun b hb => ?_⟩
        · rw [r1 c (by omega) (by omega) (by omega), x4c c (by omega)]; exact x3c c (by omega) (by omega) (by omega) (by omega)
        · rw [r1 16 (by decide) (by decide) (by decide), x416]
          by_cases e : k = i
          · rw [e, upd_s]
          · rw [upd_n _ _ e]; exact C1 k (by omega)
        · rw [r3, x417]
          by_cases e : k = i
          · subst e
            rw [upd_s, if_pos ha, hbs]
          · rw [upd_n _ _ e, upd_n _ _ e]; exact C2 k (by omega)
        · rw [r1 21 (by decide) (by decide) (by decide)]; exact x421
        · rw [r1 22 (by decide) (by decide) (by decide), hbs]; exact x422
        · rw [hbs] at hb
          by_cases hbl : b = w_bs (w_al n f) i - 1
          · subst hbl
            have hB1 : w_B (w_al n f) (i + 1) (w_bs (w_al n f) i - 1) s i := by
              obtain ⟨z1, z2, z3, z4, z5, z6⟩ := hBb
              refine ⟨by omega, by omega, fun k a b => ?_, z4, Or.inl rfl, z6⟩
              by_cases hk : k = i
              · rw [hk]; exact ha
              · exact z3 k a (by omega)
            have hfx : ∀ k, k < n → x4 8 k = f k := fun k hk => by rw [x48]; exact (hv.2.2.2.1 k hk).2
            have hqn : q < n := by have := hP.2.1; omega
            by_cases hp : x4 8 i ≤ x4 8 q
            · rw [if_pos hp] at r4
              refine ⟨s, i, q, hB1, ?_, ?_, ?_, ?_⟩
              · obtain ⟨z1, z2, z3, z4⟩ := hP
                refine ⟨z1, by omega, fun k a b => ?_, z4⟩
                by_cases hk : k = i
                · rw [hk, ← hfx i hin, ← hfx q hqn]; exact hp
                · exact z3 k a (by omega)
              · rw [r1 18 (by decide) (by decide) (by decide), x418]; exact g1
              · rw [r2, upd_s]
              · rw [r4, x420]; exact g3
            · rw [if_neg hp] at r4
              refine ⟨s, i, i, hB1, ?_, ?_, ?_, ?_⟩
              · obtain ⟨z1, z2, z3, z4⟩ := hP
                rw [hfx i hin, hfx q hqn] at hp
                have hlt : f q < f i := Int32.not_le.mp hp
                refine ⟨by omega, Nat.le_refl _, fun k a b => ?_, fun k a b => ?_⟩
                · by_cases hk : k = i
                  · rw [hk]; exact Int32.le_refl _
                  · exact Int32.le_of_lt (Int32.lt_of_le_of_lt (z3 k a (by omega)) hlt)
                · exact Int32.lt_of_le_of_lt (z3 k a (by omega)) hlt
              · rw [r1 18 (by decide) (by decide) (by decide), x418]; exact g1
              · rw [r2, upd_s]
              · rw [r4, upd_s]
          · obtain ⟨s', e', q', z1, z2, z3, z4, z5⟩ := C5 b hb
            refine ⟨s', e', q', w_B_grow z1 (fun h => ?_), z2, ?_, ?_, ?_⟩
            · have := w_B_end z1
              rw [h] at this
              omega
            · rw [r1 18 (by decide) (by decide) (by decide), x418]; exact z3
            · rw [r2, x419, upd_n _ _ hbl]; exact z4
            · rw [r4]
              by_cases hp : x4 8 i ≤ x4 8 q
              · rw [if_pos hp, x420]; exact z5
              · rw [if_neg hp, x420, upd_n _ _ hbl]; exact z5
      · -- a new bunch
        have hst : i = 0 ∨ w_al n f (i - 1) = false := by
          by_cases h : i = 0
          · exact Or.inl h
          · exact Or.inr (Bool.eq_false_iff.mpr fun h2 => hon ⟨by omega, h2⟩)
        have hbs : w_bs (w_al n f) (i + 1) = w_bs (w_al n f) i + 1 := w_bs_yes ha hst
        have hnl : ∀ b s e, b < w_bs (w_al n f) i → w_B (w_al n f) i b s e → e + 1 ≠ i := fun b s e _ h he => by
          have := h.2.2.1 e h.1 (Nat.le_refl _)
          exact hon ⟨by omega, by rw [show i - 1 = e by omega]; exact this⟩
        have h19 : w_bs (w_al n f) i = 0 ∨ ¬ x4 19 (w_bs (w_al n f) i - 1) = iI ((i : Int) - 1) := by
          by_cases h : w_bs (w_al n f) i = 0
          · exact Or.inl h
          · refine Or.inr fun h2 => ?_
            obtain ⟨s, e, q, hBb, -, -, g2, -⟩ := C5 (w_bs (w_al n f) i - 1) (by omega)
            rw [x419, g2, iI_eq (by omega) (by have := hBb.2.1; omega) (by omega) (by omega)] at h2
            exact hnl _ s e (by omega) hBb (by omega)
        obtain ⟨x5, e5, r1, r2, r3, r4, r5, r6⟩ := addNew (x := x4) (i := i) (B := w_bs (w_al n f) i) (by omega) (by omega) x422 h19
        rw [q_b1_s e5]
        refine fin x5 (fun c hc => ?_) ⟨fun k hk => ?_, fun k hk => ?_, ?_, ?_, fun b hb => ?_⟩
        · rw [r1 c (by omega) (by omega) (by omega) (by omega) (by omega), x4c c (by omega)]; exact x3c c (by omega) (by omega) (by omega) (by omega)
        · rw [r1 16 (by decide) (by decide) (by decide) (by decide) (by decide), x416]
          by_cases e : k = i
          · rw [e, upd_s]
          · rw [upd_n _ _ e]; exact C1 k (by omega)
        · rw [r5, x417]
          by_cases e : k = i
          · subst e
            rw [upd_s, if_pos ha, hbs, show (((w_bs (w_al n f) k + 1 : Nat) : Int) - 1) = (w_bs (w_al n f) k : Int) by omega]
          · rw [upd_n _ _ e, upd_n _ _ e]; exact C2 k (by omega)
        · rw [r1 21 (by decide) (by decide) (by decide) (by decide) (by decide)]; exact x421
        · rw [r6, hbs]; rfl
        · rw [hbs] at hb
          by_cases hbl : b = w_bs (w_al n f) i
          · subst hbl
            refine ⟨i, i, i, ⟨Nat.le_refl _, by omega, fun k a b => by rw [show k = i by omega]; exact ha, hst, Or.inl rfl, rfl⟩, ⟨Nat.le_refl _, Nat.le_refl _, fun k a b => by rw [show k = i by omega]; exact Int32.le_refl _, fun k a b => by omega⟩, ?_, ?_, ?_⟩
            · rw [r2, upd_s]
            · rw [r3, upd_s]
            · rw [r4, upd_s]
          · obtain ⟨s', e', q', z1, z2, z3, z4, z5⟩ := C5 b (by omega)
            refine ⟨s', e', q', w_B_grow z1 (fun h => absurd h (hnl b s' e' (by omega) z1)), z2, ?_, ?_, ?_⟩
            · rw [r2, x418, upd_n _ _ hbl]; exact z3
            · rw [r3, x419, upd_n _ _ hbl]; exact z4
            · rw [r4, x420, upd_n _ _ hbl]; exact z5
    · rw [if_neg ha]
      have haf : w_al n f i = false := Bool.eq_false_iff.mpr ha
      have hbs : w_bs (w_al n f) (i + 1) = w_bs (w_al n f) i := w_bs_no (Or.inl haf)
      obtain ⟨x', e', q1, q2⟩ := ih fuel (i + 1) x3 (by omega) (by omega) hv3 ⟨fun k hk => by
          rw [x316]
          by_cases e : k = i
          · rw [e, upd_s]
          · rw [upd_n _ _ e]; exact C1 k (by omega), fun k hk => by
          rw [x317]
          by_cases e : k = i
          · subst e; rw [upd_s, if_neg ha]; rfl
          · rw [upd_n _ _ e]; exact C2 k (by omega), by
          rw [x3c 21 (by decide) (by decide) (by decide) (by decide), C3]
          show _ = iI ((w_ca (w_al n f) i + (if w_al n f i = true then 1 else 0) : Nat) : Int)
          rw [if_neg ha]; rfl, by
          rw [x3c 22 (by decide) (by decide) (by decide) (by decide), hbs]; exact C4, fun b hb => by
          rw [hbs] at hb
          obtain ⟨s', e', q', z1, z2, z3, z4, z5⟩ := C5 b hb
          exact ⟨s', e', q', w_B_grow z1 (fun _ => haf), z2, by rw [x3c 18 (by decide) (by decide) (by decide) (by decide)]; exact z3, by rw [x3c 19 (by decide) (by decide) (by decide) (by decide)]; exact z4, by rw [x3c 20 (by decide) (by decide) (by decide) (by decide)]; exact z5⟩⟩
      exact ⟨x', e', fun c hc => (q1 c hc).trans (x3c c (by omega) (by omega) (by omega) (by omega)), q2⟩
theorem settle_s {n : Nat} {x : IS} {f : Nat → Int32} (hv : w_vw n x f (-4)) (h15 : x 15 0 = 0 ∨ x 15 0 = 1) (hc : x 15 0 = 0 → w_C n n x f) : ∃ x', f_X0_settle x = some x' ∧ (∀ c, (c < 11 ∨ (12 < c ∧ c < 15) ∨ 22 < c) → x' c = x c) ∧ x' 15 0 = 0 ∧ w_C n n x' f := by
  unfold f_X0_settle
  by_cases h0 : x 15 0 = 0
  · rw [if_pos h0]
    exact ⟨x, rfl, fun _ _ => rfl, h0, hc h0⟩
  · rw [if_neg h0]
    simp only [q_let_r]
    have n2 := hv.2.1
    obtain ⟨x1, hx1⟩ : ∃ x1, x1 = q_up (q_up (q_up x 15 (fun _ => (0 : Int32))) 21 (fun _ => (0 : Int32))) 22 (fun _ => (0 : Int32)) := ⟨_, rfl⟩
    rw [← hx1]
    have x1c : ∀ c, c ≠ 15 → c ≠ 21 → c ≠ 22 → x1 c = x c := fun c a b d => by rw [hx1]; simp (disch := omega) only [q_up_n]
    obtain ⟨x', e', q1, q2⟩ := settleL (f := f) (fun x7 => some x7) n 1000 0 x1 (by omega) (by omega) (w_vw_c2 hv (fun c hc h => x1c c h (by omega) (by omega))) ⟨fun k hk => absurd hk (by omega), fun k hk => absurd hk (by omega), by rw [hx1]; simp (disch := omega) only [q_up_s, q_up_n]; rfl, by rw [hx1]; simp (disch := omega) only [q_up_s, q_up_n]; rfl, fun b hb => absurd hb (Nat.not_lt_zero b)⟩
    refine ⟨x', e', fun c hc => (q1 c (by omega)).trans (x1c c (by omega) (by omega) (by omega)), ?_, q2⟩
    rw [q1 15 (by omega), hx1]; simp (disch := omega) only [q_up_s, q_up_n]
end
