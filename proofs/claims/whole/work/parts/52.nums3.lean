section
theorem Lx_in {L : Nat → Int} {len : Nat} {x : IS} (h : w_lx L len x) {p : Nat} (hp : L p ≠ 0) : p < len := by
  by_cases hl : p < len
  · exact hl
  · exact absurd (h.2.2.2.2 p (by omega)) hp
theorem first59 (L : Nat → Int) (len : Nat) : ∀ (t p : Nat), p + t = len → (∃ E, p ≤ E ∧ E < len ∧ L E = 59 ∧ ∀ i, p ≤ i → i < E → L i ≠ 59) ∨ (∀ i, p ≤ i → i < len → L i ≠ 59) := by
  intro t
  induction t with
  | zero => intro p h; exact Or.inr fun i h1 h2 => by omega
  | succ t ih =>
    intro p h
    by_cases hp : L p = 59
    · exact Or.inl ⟨p, Nat.le_refl _, by omega, hp, fun i h1 h2 => by omega⟩
    · rcases ih (p + 1) (by omega) with ⟨E, h1, h2, h3, h4⟩ | h1
      · refine Or.inl ⟨E, by omega, h2, h3, fun i i1 i2 => ?_⟩
        by_cases hi : i = p
        · subst hi; exact hp
        · exact h4 i (by omega) i2
      · refine Or.inr fun i i1 i2 => ?_
        by_cases hi : i = p
        · subst hi; exact hp
        · exact h1 i (by omega) i2
theorem eoiA {L : Nat → Int} {len : Nat} {x : IS} (h : w_lx L len x) (K : Option Int32) {E : Nat} (hE : E < len) (h59 : L E = 59) :
    ∀ (t fuel p : Nat), p + t = E → t < fuel → (∀ i, p ≤ i → i < E → L i ≠ 59) → f_X4_endOfItem_L2 x K fuel (iI p) = some (iI E) := by
  have hl := h.1
  intro t
  induction t with
  | zero =>
    intro fuel p h1 h2 _
    obtain rfl : p = E := by omega
    obtain ⟨fuel, rfl⟩ : ∃ z, fuel = z + 1 := ⟨fuel - 1, by omega⟩
    have e := h.2.2.2.1 p hE
    show f_X4_endOfItem_L2F x K (f_X4_endOfItem_L2 x K fuel) (iI p) = _
    simp (disch := omega) only [f_X4_endOfItem_L2F, h.2.1, Int.toNat_natCast, e, iI_lit, iI_neg, iI_lt, iI_le, iI_eq, iI_add, iI_sub, iI_mul, iI_cl, q_let_r, q_jn_r, q_b1_r, q_b2_r, q_b3_r, if_true, if_false, eq_self, q_gd_in, q_up_s, q_up_n, upd_s, upd_n, if_pos, if_neg]
  | succ t ih =>
    intro fuel p h1 h2 h3
    obtain ⟨fuel, rfl⟩ : ∃ z, fuel = z + 1 := ⟨fuel - 1, by omega⟩
    have e := h.2.2.2.1 p (by omega)
    have e2 := h3 p (by omega) (by omega)
    have r := h.2.2.1 p
    have g := ih fuel (p + 1) (by omega) (by omega) (fun i hi hi2 => h3 i (by omega) hi2)
    show f_X4_endOfItem_L2F x K (f_X4_endOfItem_L2 x K fuel) (iI p) = _
    simp (disch := omega) only [f_X4_endOfItem_L2F, h.2.1, Int.toNat_natCast, e, iI_lit, iI_neg, iI_lt, iI_le, iI_eq, iI_add, iI_sub, iI_mul, iI_cl, q_let_r, q_jn_r, q_b1_r, q_b2_r, q_b3_r, if_true, if_false, eq_self, q_gd_in, q_up_s, q_up_n, upd_s, upd_n, if_pos, if_neg]
    exact g
theorem eoiB {L : Nat → Int} {len : Nat} {x : IS} (h : w_lx L len x) (K : Option Int32) :
    ∀ (t fuel p : Nat), p + t = len → t < fuel → (∀ i, p ≤ i → i < len → L i ≠ 59) → f_X4_endOfItem_L2 x K fuel (iI p) = K := by
  have hl := h.1
  intro t
  induction t with
  | zero =>
    intro fuel p h1 h2 _
    obtain rfl : p = len := by omega
    obtain ⟨fuel, rfl⟩ : ∃ z, fuel = z + 1 := ⟨fuel - 1, by omega⟩
    show f_X4_endOfItem_L2F x K (f_X4_endOfItem_L2 x K fuel) (iI p) = _
    simp (disch := omega) only [f_X4_endOfItem_L2F, h.2.1, iI_lit, iI_neg, iI_lt, iI_le, iI_eq, iI_add, iI_sub, iI_mul, iI_cl, q_let_r, q_jn_r, q_b1_r, q_b2_r, q_b3_r, if_true, if_false, eq_self, q_gd_in, q_up_s, q_up_n, upd_s, upd_n, if_pos, if_neg]
  | succ t ih =>
    intro fuel p h1 h2 h3
    obtain ⟨fuel, rfl⟩ : ∃ z, fuel = z + 1 := ⟨fuel - 1, by omega⟩
    have e := h.2.2.2.1 p (by omega)
    have e2 := h3 p (by omega) (by omega)
    have r := h.2.2.1 p
    have g := ih fuel (p + 1) (by omega) (by omega) (fun i hi hi2 => h3 i (by omega) hi2)
    show f_X4_endOfItem_L2F x K (f_X4_endOfItem_L2 x K fuel) (iI p) = _
    simp (disch := omega) only [f_X4_endOfItem_L2F, h.2.1, Int.toNat_natCast, e, iI_lit, iI_neg, iI_lt, iI_le, iI_eq, iI_add, iI_sub, iI_mul, iI_cl, q_let_r, q_jn_r, q_b1_r, q_b2_r, q_b3_r, if_true, if_false, eq_self, q_gd_in, q_up_s, q_up_n, upd_s, upd_n, if_pos, if_neg]
    exact g
/-! readNumbers -/
theorem cn_dig {L : Nat → Int} {len : Nat} {x : IS} (h : w_lx L len x) (K : Int32 → IS → Option (Int32 × IS)) {E a f n : Nat} {v : Int} (hE : E < len) (ha : a ≤ E) (hd : w_dg (L a)) (hf : f < 2) (fuel : Nat) :
    f_X4_readNumbers_L11 (iI E) K (fuel + 1) (iI n) (iI f) (iI v) (iI a) x = f_X4_readNumbers_L11 (iI E) K fuel (iI n) (iI ((f + 1 : Nat) : Int)) (iI (v * 10 + L a - 48)) (iI ((a + 1 : Nat) : Int)) x := by
  have hl := h.1
  have e := h.2.2.2.1 a (by omega)
  have d1 := hd.1
  have d2 := hd.2
  show f_X4_readNumbers_L11F (iI E) K (f_X4_readNumbers_L11 (iI E) K fuel) (iI n) (iI f) (iI v) (iI a) x = _
  simp (disch := omega) only [f_X4_readNumbers_L11F, h.2.1, Int.toNat_natCast, e, iI_lit, iI_neg, iI_lt, iI_le, iI_eq, iI_add, iI_sub, iI_mul, iI_cl, q_let_r, q_jn_r, q_b1_r, q_b2_r, q_b3_r, if_true, if_false, eq_self, q_gd_in, q_up_s, q_up_n, upd_s, upd_n, if_pos, if_neg]
  rfl
theorem cn_sep {L : Nat → Int} {len : Nat} {x : IS} (h : w_lx L len x) (K : Int32 → IS → Option (Int32 × IS)) {E a f n : Nat} {v : Int} (hE : E < len) (ha : a ≤ E) (hd : L a = 44 ∨ L a = 59) (hf : 0 < f) (hf2 : f ≤ 2) (hn : n < 48) (fuel : Nat) :
    f_X4_readNumbers_L11 (iI E) K (fuel + 1) (iI n) (iI f) (iI v) (iI a) x = f_X4_readNumbers_L11 (iI E) K fuel (iI ((n + 1 : Nat) : Int)) (iI 0) (iI 0) (iI ((a + 1 : Nat) : Int)) (q_up x 1 (upd (x 1) n (iI v))) := by
  have hl := h.1
  have e := h.2.2.2.1 a (by omega)
  show f_X4_readNumbers_L11F (iI E) K (f_X4_readNumbers_L11 (iI E) K fuel) (iI n) (iI f) (iI v) (iI a) x = _
  by_cases h44 : L a = 44
  · simp (disch := omega) only [f_X4_readNumbers_L11F, h.2.1, Int.toNat_natCast, e, h44, iI_lit, iI_neg, iI_lt, iI_le, iI_eq, iI_add, iI_sub, iI_mul, iI_cl, q_let_r, q_jn_r, q_b1_r, q_b2_r, q_b3_r, if_true, if_false, eq_self, q_gd_in, q_up_s, q_up_n, upd_s, upd_n, if_pos, if_neg]
    rfl
  · have h59 : L a = 59 := by omega
    simp (disch := omega) only [f_X4_readNumbers_L11F, h.2.1, Int.toNat_natCast, e, h59, iI_lit, iI_neg, iI_lt, iI_le, iI_eq, iI_add, iI_sub, iI_mul, iI_cl, q_let_r, q_jn_r, q_b1_r, q_b2_r, q_b3_r, if_true, if_false, eq_self, q_gd_in, q_up_s, q_up_n, upd_s, upd_n, if_pos, if_neg]
    rfl
theorem cn_bad {L : Nat → Int} {len : Nat} {x : IS} (h : w_lx L len x) (K : Int32 → IS → Option (Int32 × IS)) {E a f n : Nat} {v : Int} (hE : E < len) (ha : a ≤ E) (hd : ¬ (w_dg (L a) ∧ f < 2)) (hb : (L a ≠ 44 ∧ L a ≠ 59) ∨ f = 0 ∨ n = 48) (hf2 : f ≤ 2) (hn : n ≤ 48) (fuel : Nat) :
    f_X4_readNumbers_L11 (iI E) K (fuel + 1) (iI n) (iI f) (iI v) (iI a) x = some (iI (-4), x) := by
  have hl := h.1
  have e := h.2.2.2.1 a (by omega)
  have r := h.2.2.1 a
  have key : ∀ J : Int32 → Int32 → Int32 → IS → Option (Int32 × IS), (q_jn (
          if iI (f : Int) ≤ iI 0 then
            some (iI (-4), x)
          else
            if iI 48 ≤ iI (n : Int) then
              some (iI (-4), x)
            else
              q_gd (q_in (iI (n : Int)) 48) (
              q_let (q_up x 1 (upd (x 1) (iI (n : Int)).toNatClampNeg (iI v))) fun x22 =>
              q_let (iI (n : Int) + iI 1) fun v23 =>
              J v23 (iI 0) (iI 0) x22)) fun J88 =>
        if iI (L a) = iI 44 then
          J88
        else
          if iI (L a) = iI 59 then
            J88
          else
            some (iI (-4), x)) = some (iI (-4), x) := by
    intro J
    by_cases hs : L a ≠ 44 ∧ L a ≠ 59
    · simp (disch := omega) only [iI_lit, iI_neg, iI_lt, iI_le, iI_eq, iI_add, iI_sub, iI_mul, iI_cl, q_let_r, q_jn_r, q_b1_r, q_b2_r, q_b3_r, if_true, if_false, eq_self, q_gd_in, q_up_s, q_up_n, upd_s, upd_n, if_pos, if_neg]
    · have hin : (if iI (f : Int) ≤ iI 0 then
            some (iI (-4), x)
          else
            if iI 48 ≤ iI (n : Int) then
              some (iI (-4), x)
            else
              q_gd (q_in (iI (n : Int)) 48) (
              q_let (q_up x 1 (upd (x 1) (iI (n : Int)).toNatClampNeg (iI v))) fun x22 =>
              q_let (iI (n : Int) + iI 1) fun v23 =>
              J v23 (iI 0) (iI 0) x22)) = some (iI (-4), x) := by
        by_cases hf0 : f = 0
        · rw [if_pos (by rw [iI_le (by omega) (by omega) (by omega) (by omega)]; omega)]
        · have hn48 : n = 48 := by omega
          rw [if_neg (by rw [iI_le (by omega) (by omega) (by omega) (by omega)]; omega), if_pos (by rw [iI_le (by omega) (by omega) (by omega) (by omega)]; omega)]
      rw [hin]
      show (if _ then _ else if _ then _ else _) = _
      split
      · rfl
      · split <;> rfl
  show f_X4_readNumbers_L11F (iI E) K (f_X4_readNumbers_L11 (iI E) K fuel) (iI n) (iI f) (iI v) (iI a) x = _
  unfold f_X4_readNumbers_L11F
  rw [if_neg (by rw [iI_lt (by omega) (by omega) (by omega) (by omega)]; omega), h.2.1, if_neg (by rw [iI_le (by omega) (by omega) (by omega) (by omega)]; omega), q_gd_in (by omega) (by omega) (by omega), iI_cl (by omega) (by omega), Int.toNat_natCast, e]
  rw [q_let_r, q_jn_r]
  have kk := key (fun (v24 : Int32) (v25 : Int32) (v26 : Int32) (x27 : IS) =>
        q_let (iI (a : Int) + 1) fun v28 =>
        f_X4_readNumbers_L11 (iI E) K fuel v24 v25 v26 v28 x27)
  refine Eq.trans (b := q_jn (some (iI (-4), x)) fun J74 => _) (congrArg (fun z => q_jn z _) kk) ?_
  rw [q_jn_r]
  by_cases hlo : L a < 48
  · rw [if_pos (by rw [show (48 : Int32) = iI 48 from rfl, iI_lt (by omega) (by omega) (by omega) (by omega)]; omega)]
  · rw [if_neg (by rw [show (48 : Int32) = iI 48 from rfl, iI_lt (by omega) (by omega) (by omega) (by omega)]; omega)]
    by_cases hhi : 57 < L a
    · rw [if_pos (by rw [show (57 : Int32) = iI 57 from rfl, iI_lt (by omega) (by omega) (by omega) (by omega)]; omega)]
    · rw [if_neg (by rw [show (57 : Int32) = iI 57 from rfl, iI_lt (by omega) (by omega) (by omega) (by omega)]; omega)]
      rw [if_pos (by rw [show (2 : Int32) = iI 2 from rfl, iI_le (by omega) (by omega) (by omega) (by omega)]; omega)]
theorem cn_step {L : Nat → Int} {len : Nat} {x : IS} (h : w_lx L len x) (K : Int32 → IS → Option (Int32 × IS)) {E p n : Nat} (hE : E < len) (hv : 0 ≤ w_nv L p) (hne : w_ne L p ≤ E) (hs : L (w_ne L p) = 44 ∨ L (w_ne L p) = 59) (hn : n < 48) (fuel : Nat) :
    f_X4_readNumbers_L11 (iI E) K (fuel + (w_ne L p + 1 - p)) (iI n) (iI 0) (iI 0) (iI p) x = f_X4_readNumbers_L11 (iI E) K fuel (iI ((n + 1 : Nat) : Int)) (iI 0) (iI 0) (iI ((w_ne L p + 1 : Nat) : Int)) (q_up x 1 (upd (x 1) n (iI (w_nv L p)))) := by
  have d0 := w_nv_dg hv
  by_cases d1 : w_dg (L (p + 1))
  · have en : w_ne L p = p + 2 := by unfold w_ne; rw [if_pos d0, if_pos d1]
    have ev : w_nv L p = (0 * 10 + L p - 48) * 10 + L (p + 1) - 48 := by unfold w_nv; rw [if_pos d0, if_pos d1]; omega
    rw [ev]
    rw [en] at hs hne ⊢
    rw [show fuel + (p + 2 + 1 - p) = fuel + 1 + 1 + 1 by omega]
    refine (cn_dig h K (f := 0) hE (by omega) d0 (by omega) _).trans ?_
    refine (cn_dig h K (f := 1) hE (by omega) d1 (by omega) _).trans ?_
    exact cn_sep h K (f := 2) hE hne hs (by omega) (by omega) hn _
  · have en : w_ne L p = p + 1 := by unfold w_ne; rw [if_pos d0, if_neg d1]
    have ev : w_nv L p = 0 * 10 + L p - 48 := by unfold w_nv; rw [if_pos d0, if_neg d1]; omega
    rw [ev]
    rw [en] at hs hne ⊢
    rw [show fuel + (p + 1 + 1 - p) = fuel + 1 + 1 by omega]
    refine (cn_dig h K (f := 0) hE (by omega) d0 (by omega) _).trans ?_
    exact cn_sep h K (f := 1) hE hne hs (by omega) (by omega) hn _
theorem cn_stop {L : Nat → Int} {len : Nat} {x : IS} (h : w_lx L len x) (K : Int32 → IS → Option (Int32 × IS)) {E p n : Nat} (hE : E < len) (hpE : p ≤ E) (h59 : L E = 59) (hn : n ≤ 48) (hb : w_nv L p < 0 ∨ n = 48 ∨ (L (w_ne L p) ≠ 44 ∧ L (w_ne L p) ≠ 59)) (fuel : Nat) :
    f_X4_readNumbers_L11 (iI E) K (fuel + 3) (iI n) (iI 0) (iI 0) (iI p) x = some (iI (-4), x) := by
  by_cases d0 : w_dg (L p)
  · have p1 : p ≠ E := fun hh => by subst hh; unfold w_dg at d0; omega
    refine (cn_dig h K (f := 0) hE hpE d0 (by omega) _).trans ?_
    by_cases d1 : w_dg (L (p + 1))
    · have p2 : p + 1 ≠ E := fun hh => by subst hh; unfold w_dg at d1; omega
      have en : w_ne L p = p + 2 := by unfold w_ne; rw [if_pos d0, if_pos d1]
      have ev : 0 ≤ w_nv L p := by unfold w_nv; rw [if_pos d0, if_pos d1]; unfold w_dg at d0 d1; omega
      rw [en] at hb
      refine (cn_dig h K (f := 1) hE (by omega) d1 (by omega) _).trans ?_
      exact cn_bad h K (f := 2) (a := p + 2) hE (by omega) (by omega) (by omega) (by omega) hn _
    · have en : w_ne L p = p + 1 := by unfold w_ne; rw [if_pos d0, if_neg d1]
      have ev : 0 ≤ w_nv L p := by unfold w_nv; rw [if_pos d0, if_neg d1]; unfold w_dg at d0; omega
      rw [en] at hb
      exact cn_bad h K (f := 1) hE (by omega) (by omega) (by omega) (by omega) hn _
  · exact cn_bad h K (f := 0) hE (by omega) (fun hh => d0 hh.1) (Or.inr (Or.inl rfl)) (by omega) hn _
theorem cnA {L : Nat → Int} {len : Nat} (K : Int32 → IS → Option (Int32 × IS)) : ∀ (l : List Int) (fuel p e n : Nat) (x : IS), w_lx L len x → w_N L l p e → L e = 59 → n + l.length ≤ 48 → e + 1 - p < fuel →
    ∃ x' : IS, f_X4_readNumbers_L11 (iI e) K fuel (iI n) (iI 0) (iI 0) (iI p) x = K (iI ((n + l.length : Nat) : Int)) x' ∧ (∀ i, i < l.length → x' 1 (n + i) = iI (l.getD i 0)) ∧ (∀ i, i < n → x' 1 i = x 1 i) ∧ ∀ c, c ≠ 1 → x' c = x c := by
  intro l
  induction l with
  | nil => intro fuel p e n x _ h; exact absurd h id
  | cons v l ih =>
    intro fuel p e n x h hN h59 h48 hf
    have hE : e < len := Lx_in h (by omega)
    have hl := h.1
    obtain ⟨h1, h2, h3⟩ := hN
    subst h1
    have lt := w_ne_lt h2
    simp only [List.length_cons] at h48 ⊢
    rcases h3 with ⟨h4, h5, h6⟩ | ⟨h4, h5⟩
    · subst h4 h5
      obtain ⟨fuel, rfl⟩ : ∃ z, fuel = z + 1 + (w_ne L p + 1 - p) := ⟨fuel - 1 - (w_ne L p + 1 - p), by omega⟩
      have st := cn_step h K hE h2 (Nat.le_refl _) (Or.inr h59) (n := n) (by omega) (fuel + 1)
      refine ⟨q_up x 1 (upd (x 1) n (iI (w_nv L p))), st.trans ?_, fun i hi => ?_, fun i hi => ?_, fun c hc => ?_⟩
      · show f_X4_readNumbers_L11F (iI (w_ne L p)) K (f_X4_readNumbers_L11 (iI (w_ne L p)) K fuel) _ _ _ _ _ = _
        unfold f_X4_readNumbers_L11F
        exact if_pos (by rw [iI_lt (by omega) (by omega) (by omega) (by omega)]; omega)
      · obtain rfl : i = 0 := by simp at hi; omega
        rw [q_up_s]; exact upd_s _ _ _
      · rw [q_up_s]; exact upd_n _ _ (by omega)
      · exact q_up_n _ _ hc
    · obtain ⟨a1, -⟩ := w_N_no _ _ _ h5
      obtain ⟨fuel, rfl⟩ : ∃ z, fuel = z + (w_ne L p + 1 - p) := ⟨fuel - (w_ne L p + 1 - p), by omega⟩
      have st := cn_step h K hE h2 (by omega) (Or.inl h4) (n := n) (by omega) fuel
      obtain ⟨x', e', b1, b2, b3⟩ := ih fuel _ e (n + 1) (q_up x 1 (upd (x 1) n (iI (w_nv L p)))) (w_lx_k h (q_up_n _ _ (by decide)) (q_up_n _ _ (by decide))) h5 h59 (by omega) (by omega)
      refine ⟨x', st.trans (e'.trans ?_), fun i hi => ?_, fun i hi => ?_, fun c hc => (b3 c hc).trans (q_up_n _ _ hc)⟩
      · rw [show n + 1 + l.length = n + (l.length + 1) by omega]
      · cases i with
        | zero => rw [b2 _ (by omega), q_up_s]; exact upd_s _ _ _
        | succ i =>
          have := b1 i (by omega)
          rw [show n + (i + 1) = n + 1 + i by omega]
          exact this
      · rw [b2 i (by omega), q_up_s]; exact upd_n _ _ (by omega)
theorem cnB {L : Nat → Int} {len : Nat} (K : Int32 → IS → Option (Int32 × IS)) {E : Nat} (hE : E < len) (h59 : L E = 59) : ∀ (t fuel p n : Nat) (x : IS), w_lx L len x → 201 ≤ p + t → 3 * t + 3 < fuel → p ≤ E → (∀ i, p ≤ i → i < E → L i ≠ 59) → n ≤ 48 → (∀ l e, w_N L l p e → ¬ (L e = 59 ∧ n + l.length ≤ 48)) →
    ∃ x' : IS, f_X4_readNumbers_L11 (iI E) K fuel (iI n) (iI 0) (iI 0) (iI p) x = some (iI (-4), x') ∧ ∀ c, c ≠ 1 → x' c = x c := by
  intro t
  induction t with
  | zero => intro fuel p n x h h1 h2 h3; have := h.1; omega
  | succ t ih =>
    intro fuel p n x h h1 h2 h3 h4 h5 hN
    have hl := h.1
    obtain ⟨fuel, rfl⟩ : ∃ z, fuel = z + 3 := ⟨fuel - 3, by omega⟩
    by_cases hb : w_nv L p < 0 ∨ n = 48 ∨ (L (w_ne L p) ≠ 44 ∧ L (w_ne L p) ≠ 59)
    · exact ⟨x, cn_stop h K hE h3 h59 h5 hb fuel, fun _ _ => rfl⟩
    · have hv : 0 ≤ w_nv L p := by omega
      have lt := w_ne_lt hv
      have hr := w_ne_rg L p
      have hle : w_ne L p ≤ E := by
        by_cases hc : w_ne L p ≤ E
        · exact hc
        · have := w_ne_no h3 (by omega : E < w_ne L p); omega
      by_cases hcm : L (w_ne L p) = 44
      · have hlt : w_ne L p ≠ E := fun hh => by rw [hh] at hcm; omega
        obtain ⟨f2, hf2⟩ : ∃ z, fuel + 3 = z + (w_ne L p + 1 - p) := ⟨fuel + 3 - (w_ne L p + 1 - p), by omega⟩
        have st := cn_step h K hE hv hle (Or.inl hcm) (n := n) (by omega) f2
        obtain ⟨x', e', b3⟩ := ih f2 (w_ne L p + 1) (n + 1) (q_up x 1 (upd (x 1) n (iI (w_nv L p)))) (w_lx_k h (q_up_n _ _ (by decide)) (q_up_n _ _ (by decide))) (by omega) (by omega) (by omega) (fun i hi hi2 => h4 i (by omega) hi2) (by omega) (fun l e hl2 hh => hN _ e (w_N_more hv hcm hl2) ⟨hh.1, by simp only [List.length_cons]; omega⟩)
        refine ⟨x', ?_, fun c hc => (b3 c hc).trans (q_up_n _ _ hc)⟩
        rw [hf2, st]; exact e'
      · exact absurd ⟨by omega, by simp only [List.length_cons, List.length_nil]; omega⟩ (hN _ _ (w_N_one hv hcm))
end
