section
def w_fx (x' x : IS) : Prop := ∀ c, c = 0 ∨ c = 2 ∨ 8 ≤ c → x' c = x c
def w_fy (y' y : IS) : Prop := ∀ c, c < 8 → y' c = y c
def w_good (L : Nat → Int) (len p : Nat) (x y : IS) : Prop := ∃ (E c' : Nat) (x' y' : IS), p < E ∧ E < len ∧ L E = 59 ∧ f_X4_endOfItem x (iI p) = some (iI E) ∧ f_X4_readItem x (iI p) (iI E) = some (1, x') ∧ f_X7_readsItem y (iI p) = some (1, y') ∧ y' 12 0 = iI E ∧ w_T c' x' y' ∧ w_fx x' x ∧ w_fy y' y
def w_badX (p : Nat) (x : IS) : Prop := f_X4_endOfItem x (iI p) = some (iI (-4)) ∨ ∃ (E : Nat) (x' : IS), E < 200 ∧ f_X4_endOfItem x (iI p) = some (iI E) ∧ f_X4_readItem x (iI p) (iI E) = some (0, x') ∧ w_fx x' x
def w_badY (L : Nat → Int) (p : Nat) (y : IS) : Prop := ∃ y' : IS, w_fy y' y ∧ (f_X7_readsItem y (iI p) = some (0, y') ∨ (f_X7_readsItem y (iI p) = some (1, y') ∧ ∃ e : Nat, e ≤ 900 ∧ y' 12 0 = iI e ∧ L e ≠ 59))
theorem w_Tl_k {x y x2 y2 : IS} (h : w_Tl x y) (h4 : x2 4 = x 4) (h10 : ∀ k, k < 5 → y2 10 (96 + k) = y 10 (96 + k)) : w_Tl x2 y2 := fun k hk => by rw [h4, h10 k hk]; exact h k hk
theorem w_Tm_k {x y x2 y2 : IS} (h : w_Tm x y) (h7 : x2 7 = x 7) (h10 : y2 10 101 = y 10 101) : w_Tm x2 y2 := by unfold w_Tm; rw [h7, h10]; exact h
theorem w_Td_k {x y x2 y2 : IS} (h : w_Td x y) (h5 : x2 5 = x 5) (h9 : y2 9 = y 9) (h11 : y2 11 = y 11) : w_Td x2 y2 := by unfold w_Td; rw [h5, h9, h11]; exact h
theorem w_Tc_k {c : Nat} {x y x2 y2 : IS} (h : w_Tc c x y) (h3 : x2 3 = x 3) (h6 : x2 6 = x 6) (h8 : y2 8 = y 8) (h10 : ∀ k, k < 96 → y2 10 k = y 10 k) : w_Tc c x2 y2 := by
  obtain ⟨a, b, d, e, f⟩ := h
  refine ⟨a, by rw [h6]; exact b, by rw [h8]; exact d, fun i hi => by rw [h3, h10 i (by omega)]; exact e i hi, fun i h1 h2 => by rw [h10 i h2]; exact f i h1 h2⟩
theorem wd_no {L : Nat → Int} {p wi : Nat} (hwi : wi < 7) (hw : w_wd L p wi) : ∀ i, p ≤ i → i < p + q_len.getD wi 0 → L i ≠ 59 := by
  intro i h1 h2
  obtain ⟨k, rfl⟩ : ∃ k, i = p + k := ⟨i - p, by omega⟩
  rw [hw k (by omega)]
  exact (w_ch_rg wi hwi k (by omega)).2.2
theorem cls_num {L : Nat → Int} {len p e : Nat} {x : IS} {l : List Int} (hx : w_lx L len x) (hw : ∀ i, p ≤ i → i < p + 5 → L i ≠ 59) (hN : w_N L l (p + 5) e) (h59 : L e = 59) (h48 : l.length ≤ 48) :
    p < e ∧ e < len ∧ f_X4_endOfItem x (iI p) = some (iI e) ∧ ∃ x1 : IS, f_X4_readNumbers x (iI ((p + 5 : Nat) : Int)) (iI e) = some (iI l.length, x1) ∧ (∀ i, i < l.length → x1 1 i = iI (l.getD i 0)) ∧ ∀ c, c ≠ 1 → x1 c = x c := by
  have hl := hx.1
  have he : e < len := Lx_in hx (by omega)
  obtain ⟨n1, n2, n3, n4, n5⟩ := w_N_no _ _ _ hN
  refine ⟨by omega, he, ?_, ?_⟩
  · refine eoiA hx (some (-4)) he h59 (e - p) 1000 p (by omega) (by omega) (fun i i1 i2 => ?_)
    by_cases hi : i < p + 5
    · exact hw i i1 hi
    · exact n5 i (by omega) i2
  · obtain ⟨x1, e1, b1, b2, b3⟩ := cnA (fun e5 x7 => some (e5, x7)) l 1000 (p + 5) e 0 x hx hN h59 (by omega) (by omega)
    rw [Nat.zero_add] at e1
    exact ⟨x1, e1, fun i hi => by have := b1 i hi; rw [Nat.zero_add] at this; exact this, b3⟩
theorem cls_bad {L : Nat → Int} {len p : Nat} {x : IS} (hx : w_lx L len x) (hp : p < len) (hw : ∀ i, p ≤ i → i < p + 5 → L i ≠ 59) {op : IS → Int32 → Option (Int32 × IS)}
    (ri : ∀ e, f_X4_readItem x (iI p) e = q_b2 (f_X4_readNumbers x (iI ((p + 5 : Nat) : Int)) e) fun r z => q_b2 (op z r) fun r2 z2 => some (r2, z2))
    (h4 : ∀ z, op z (iI (-4)) = some (0, z))
    (hop : ∀ l e z, w_N L l (p + 5) e → L e = 59 → l.length ≤ 48 → (∀ i, i < l.length → z 1 i = iI (l.getD i 0)) → (∀ c, c ≠ 1 → z c = x c) → op z (iI l.length) = some (0, z)) : w_badX p x := by
  have hl := hx.1
  rcases first59 L len (len - p) p (by omega) with ⟨E, h1, h2, h3, h5⟩ | hno
  · by_cases hr : ∃ l e, w_N L l (p + 5) e ∧ L e = 59 ∧ l.length ≤ 48
    · obtain ⟨l, e, a1, a2, a3⟩ := hr
      obtain ⟨b1, b2, b3, x1, b4, b5, b6⟩ := cls_num hx hw a1 a2 a3
      refine Or.inr ⟨e, x1, by omega, b3, ?_, fun c hc => b6 c (by omega)⟩
      rw [ri]
      refine (q_b2_s b4).trans ?_
      exact q_b2_s (hop l e x1 a1 a2 a3 b5 b6)
    · have hpE : p + 5 ≤ E := by
        by_cases hc : p + 5 ≤ E
        · exact hc
        · exact absurd h3 (hw E h1 (by omega))
      obtain ⟨x1, b4, b6⟩ := cnB (fun e5 x7 => some (e5, x7)) h2 h3 201 1000 (p + 5) 0 x hx (by omega) (by omega) hpE (fun i i1 i2 => h5 i (by omega) i2) (by omega) (fun l e q hh => hr ⟨l, e, q, hh.1, by omega⟩)
      refine Or.inr ⟨E, x1, by omega, eoiA hx (some (-4)) h2 h3 (E - p) 1000 p (by omega) (by omega) h5, ?_, fun c hc => b6 c (by omega)⟩
      rw [ri]
      refine (q_b2_s b4).trans ?_
      exact q_b2_s (h4 x1)
  · exact Or.inl (eoiB hx (some (-4)) (len - p) 1000 p (by omega) (by omega) hno)
theorem item_c {L : Nat → Int} {len p c : Nat} {x y : IS} (hx : w_lx L len x) (hy : w_ly L len y) (hT : w_T c x y) (hp : p < len) (hw : w_wd L p 1) : w_good L len p x y ∨ (w_badX p x ∧ w_badY L p y) := by
  have hl := hx.1
  have hno := wd_no (by omega) hw
  obtain ⟨⟨c48, h6, h8, hcs, hz⟩, hTl, hTm, hTd⟩ := hT
  by_cases hg : ∃ l e, w_N L l (p + 5) e ∧ L e = 59 ∧ c + l.length ≤ 48
  · obtain ⟨l, e, a1, a2, a3⟩ := hg
    obtain ⟨n1, n2, n3, n4, n5⟩ := w_N_no _ _ _ a1
    obtain ⟨b1, b2, b3, x1, b4, b5, b6⟩ := cls_num hx hno a1 a2 (by omega)
    obtain ⟨y', d1, d8, d12, d10, d10', df⟩ := rcA (fun x4 => some ((1 : Int32), x4)) l 1000 (p + 5) e c y hy a1 h8 a3 (by omega)
    refine Or.inl ⟨e, c + l.length, q_up (q_up x1 3 (va_cpy (x1 1) (x1 3) 0 c l.length)) 6 (fun _ => iI ((c + l.length : Nat) : Int)), y', b1, b2, a2, b3, ?_, ?_, d12, ⟨⟨a3, ?_, d8, fun i hi => ?_, fun i i1 i2 => ?_⟩, ?_, ?_, ?_⟩, fun k hk => ?_, fun k hk => df k (by omega) (by omega) (by omega)⟩
    · rw [ri_c hx (by omega) hw]
      refine (q_b2_s b4).trans ?_
      exact q_b2_s (addC_t (by rw [b6 6 (by decide)]; exact h6) n2 a3)
    · rw [rr_c hy (by omega) hw]
      exact q_b2_s d1
    · rw [q_up_s]
    · rw [q_up_n _ _ (by decide), q_up_s]
      by_cases hi2 : i < c
      · rw [va_cpy_out (Or.inl hi2), d10' i (Or.inl hi2), b6 3 (by decide)]
        exact hcs i hi2
      · have q := d10 (i - c) (by omega)
        rw [show c + (i - c) = i by omega] at q
        have r := n4 (i - c) (by omega)
        rw [va_cpy_in (by omega) (by omega), q, Nat.zero_add, iI_toInt (by omega) (by omega)]
        exact ⟨b5 _ (by omega), r⟩
    · rw [d10' i (by omega)]; exact hz i i1 i2
    · exact w_Tl_k hTl (by rw [q_up_n _ _ (by decide), q_up_n _ _ (by decide), b6 4 (by decide)]) (fun k hk => d10' _ (by omega))
    · exact w_Tm_k hTm (by rw [q_up_n _ _ (by decide), q_up_n _ _ (by decide), b6 7 (by decide)]) (d10' _ (by omega))
    · exact w_Td_k hTd (by rw [q_up_n _ _ (by decide), q_up_n _ _ (by decide), b6 5 (by decide)]) (df 9 (by decide) (by decide) (by decide)) (df 11 (by decide) (by decide) (by decide))
    · rw [q_up_n _ _ (by omega), q_up_n _ _ (by omega), b6 k (by omega)]
  · refine Or.inr ⟨cls_bad hx hp hno (ri_c hx (by omega) hw) addC_4 (fun l e z a1 a2 a3 _ a5 => addC_f (c := c) (by rw [a5 6 (by decide)]; exact h6) a3 c48 (Or.inr ?_)), ?_⟩
    · by_cases hc : c + l.length ≤ 48
      · exact absurd ⟨l, e, a1, a2, hc⟩ hg
      · omega
    · obtain ⟨y', f1, f2⟩ := rcB (fun x4 => some ((1 : Int32), x4)) 201 1000 (p + 5) c y hy (by omega) (by omega) (by omega) h8 c48 (fun l e a1 hh => hg ⟨l, e, a1, hh.1, hh.2⟩)
      refine ⟨y', f1, ?_⟩
      rw [rr_c hy (by omega) hw]
      rcases f2 with f2 | ⟨f2, f3⟩
      · exact Or.inl (q_b2_s f2)
      · exact Or.inr ⟨q_b2_s f2, f3⟩
theorem item_l {L : Nat → Int} {len p c : Nat} {x y : IS} (hx : w_lx L len x) (hy : w_ly L len y) (hT : w_T c x y) (hp : p < len) (hw : w_wd L p 2) : w_good L len p x y ∨ (w_badX p x ∧ w_badY L p y) := by
  have hl := hx.1
  have hno := wd_no (by omega) hw
  obtain ⟨hTc, hTl, hTm, hTd⟩ := hT
  by_cases hg : ∃ l e, w_N L l (p + 5) e ∧ L e = 59 ∧ l.length = 5 ∧ ∀ i, i < 5 → w_lo i ≤ l.getD i 0 ∧ l.getD i 0 ≤ w_hi i
  · obtain ⟨l, e, a1, a2, a3, a4⟩ := hg
    obtain ⟨n1, n2, n3, n4, n5⟩ := w_N_no _ _ _ a1
    obtain ⟨b1, b2, b3, x1, b4, b5, b6⟩ := cls_num hx hno a1 a2 (by omega)
    obtain ⟨y', d1, d12, d10, d10', df⟩ := lkA (fun x4 => some ((1 : Int32), x4)) l 1000 (p + 5) e 0 y hy a1 (by omega) (fun i hi => by rw [Nat.zero_add]; exact a4 i (by omega)) (by omega)
    rw [a3] at b4 b5 d10 n4
    refine Or.inl ⟨e, c, q_up x1 4 (va_cpy (x1 1) (x1 4) 0 0 5), y', b1, b2, a2, b3, ?_, ?_, d12, ⟨?_, fun k hk => ?_, ?_, ?_⟩, fun k hk => ?_, fun k hk => df k (by omega) (by omega)⟩
    · rw [ri_l hx (by omega) hw]
      refine (q_b2_s b4).trans ?_
      exact q_b2_s (setL_t a3 b5 n4 a4)
    · rw [rr_l hy (by omega) hw]
      exact q_b2_s d1
    · exact w_Tc_k hTc (by rw [q_up_n _ _ (by decide), b6 3 (by decide)]) (by rw [q_up_n _ _ (by decide), b6 6 (by decide)]) (df 8 (by decide) (by decide)) (fun k hk => d10' _ (by omega))
    · have q := d10 k hk
      have r := n4 k hk
      rw [Nat.add_zero] at q
      rw [q_up_s, va_cpy_in (by omega) (by omega), q, Nat.zero_add, Nat.sub_zero, iI_toInt (by omega) (by omega)]
      exact ⟨b5 k hk, a4 k hk⟩
    · exact w_Tm_k hTm (by rw [q_up_n _ _ (by decide), b6 7 (by decide)]) (d10' _ (by omega))
    · exact w_Td_k hTd (by rw [q_up_n _ _ (by decide), b6 5 (by decide)]) (df 9 (by decide) (by decide)) (df 11 (by decide) (by decide))
    · rw [q_up_n _ _ (by omega), b6 k (by omega)]
  · refine Or.inr ⟨cls_bad hx hp hno (ri_l hx (by omega) hw) (fun z => setL_n (by omega) (by omega) (by omega)) (fun l e z a1 a2 a3 a4 a5 => ?_), ?_⟩
    · obtain ⟨n1, n2, n3, n4, n5⟩ := w_N_no _ _ _ a1
      by_cases h5 : l.length = 5
      · rw [h5] at a4 n4 ⊢
        exact setL_f h5 a4 n4 (fun hh => hg ⟨l, e, a1, a2, h5, hh⟩)
      · exact setL_n (by omega) (by omega) (by omega)
    · obtain ⟨y', f1, f2⟩ := lkB (fun x4 => some ((1 : Int32), x4)) 5 1000 (p + 5) 0 y hy (by omega) (by omega) (by omega) (by omega) (fun l e a1 hh => hg ⟨l, e, a1, hh.1, by omega, fun i hi => by have := hh.2.2 i (by omega); rw [Nat.zero_add] at this; exact this⟩)
      refine ⟨y', f1, ?_⟩
      rw [rr_l hy (by omega) hw]
      rcases f2 with f2 | ⟨f2, f3⟩
      · exact Or.inl (q_b2_s f2)
      · exact Or.inr ⟨q_b2_s f2, f3⟩
theorem item_m {L : Nat → Int} {len p c : Nat} {x y : IS} (hx : w_lx L len x) (hy : w_ly L len y) (hT : w_T c x y) (hp : p < len) (hw : w_wd L p 0) : w_good L len p x y ∨ (w_badX p x ∧ w_badY L p y) := by
  have hl := hx.1
  have hno := wd_no (by omega) hw
  obtain ⟨hTc, hTl, hTm, hTd⟩ := hT
  by_cases hg : ∃ j, j < 3 ∧ w_wd L (p + 5) (4 + j) ∧ L (p + 5 + 4) = 59
  · obtain ⟨j, hj, a1, a2⟩ := hg
    have he : p + 5 + 4 < len := Lx_in hx (by omega)
    have hq : q_len.getD (4 + j) 0 = 4 := by
      match j, hj with
      | 0, _ => rfl
      | 1, _ => rfl
      | 2, _ => rfl
    have hno2 := wd_no (by omega) a1
    rw [hq] at hno2
    refine Or.inl ⟨p + 5 + 4, c, q_up x 7 (fun _ => iI j), q_up (q_up y 10 (upd (y 10) 101 (iI j))) 12 (fun _ => iI ((p + 5 + 4 : Nat) : Int)), by omega, he, a2, eoiA hx (some (-4)) he a2 9 1000 p (by omega) (by omega) (fun i i1 i2 => ?_), ?_, ?_, by rw [q_up_s], ⟨?_, ?_, ?_, ?_⟩, fun k hk => ?_, fun k hk => ?_⟩
    · by_cases hi : i < p + 5
      · exact hno i i1 hi
      · exact hno2 i (by omega) (by omega)
    · rw [ri_m hx (by omega) hw]
      exact q_b2_s (rm_t hx (by omega) hj a1)
    · rw [rr_m hy (by omega) hw]
      exact q_b2_s (sm_t hy (by omega) hj a1)
    · refine w_Tc_k hTc (q_up_n _ _ (by decide)) (q_up_n _ _ (by decide)) (by rw [q_up_n _ _ (by decide), q_up_n _ _ (by decide)]) (fun k hk => ?_)
      rw [q_up_n _ _ (by decide), q_up_s]; exact upd_n _ _ (by omega)
    · refine w_Tl_k hTl (q_up_n _ _ (by decide)) (fun k hk => ?_)
      rw [q_up_n _ _ (by decide), q_up_s]; exact upd_n _ _ (by omega)
    · unfold w_Tm
      rw [q_up_s, q_up_n _ _ (by decide), q_up_s, upd_s, iI_toInt (by omega) (by omega)]
      exact ⟨rfl, by omega, by omega⟩
    · exact w_Td_k hTd (q_up_n _ _ (by decide)) (by rw [q_up_n _ _ (by decide), q_up_n _ _ (by decide)]) (by rw [q_up_n _ _ (by decide), q_up_n _ _ (by decide)])
    · exact q_up_n _ _ (by omega)
    · rw [q_up_n _ _ (by omega), q_up_n _ _ (by omega)]
  · refine Or.inr ⟨?_, ?_⟩
    · rcases first59 L len (len - p) p (by omega) with ⟨E, h1, h2, h3, h5⟩ | hnone
      · refine Or.inr ⟨E, x, by omega, eoiA hx (some (-4)) h2 h3 (E - p) 1000 p (by omega) (by omega) h5, ?_, fun _ _ => rfl⟩
        rw [ri_m hx (by omega) hw]
        refine q_b2_s (rm_f hx (by omega) (by omega) (fun j hj hh => hg ⟨j, hj, hh.2, ?_⟩))
        rw [← hh.1]; exact h3
      · exact Or.inl (eoiB hx (some (-4)) (len - p) 1000 p (by omega) (by omega) hnone)
    · unfold w_badY
      rw [rr_m hy (by omega) hw]
      by_cases hm : ∃ j, j < 3 ∧ w_wd L (p + 5) (4 + j)
      · obtain ⟨j, hj, a1⟩ := hm
        refine ⟨q_up (q_up y 10 (upd (y 10) 101 (iI j))) 12 (fun _ => iI ((p + 5 + 4 : Nat) : Int)), fun k hk => by rw [q_up_n _ _ (by omega), q_up_n _ _ (by omega)], Or.inr ⟨q_b2_s (sm_t hy (by omega) hj a1), p + 5 + 4, by omega, by rw [q_up_s], fun hh => hg ⟨j, hj, a1, hh⟩⟩⟩
      · obtain ⟨y', f1, f2⟩ := sm_f hy (b := p + 5) (by omega) (fun j hj hh => hm ⟨j, hj, hh⟩)
        exact ⟨y', f2, Or.inl (q_b2_s f1)⟩
theorem item_n {L : Nat → Int} {len p : Nat} {x y : IS} (hx : w_lx L len x) (hy : w_ly L len y) (hp : p < len) (h0 : ¬ w_wd L p 0) (h1 : ¬ w_wd L p 1) (h2 : ¬ w_wd L p 2) (h3 : ¬ w_wd L p 3) : w_badX p x ∧ w_badY L p y := by
  have hl := hx.1
  refine ⟨?_, y, fun _ _ => rfl, Or.inl (rr_n hy (by omega) h0 h1 h2 h3)⟩
  rcases first59 L len (len - p) p (by omega) with ⟨E, a1, a2, a3, a5⟩ | hnone
  · exact Or.inr ⟨E, x, by omega, eoiA hx (some (-4)) a2 a3 (E - p) 1000 p (by omega) (by omega) a5, ri_n hx (by omega) h0 h1 h2 h3 _, fun _ _ => rfl⟩
  · exact Or.inl (eoiB hx (some (-4)) (len - p) 1000 p (by omega) (by omega) hnone)
end
