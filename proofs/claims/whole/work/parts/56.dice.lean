section
theorem w_ls_ge : ∀ l : List Int, (∀ i, i < l.length → 0 ≤ l.getD i 0) → 0 ≤ w_ls l ∧ ∀ i, i < l.length → l.getD i 0 ≤ w_ls l := by
  intro l
  induction l with
  | nil => intro _; exact ⟨Int.le_refl _, fun i hi => absurd hi (by simp)⟩
  | cons v l ih =>
    intro h
    have h0 : 0 ≤ v := h 0 (by simp)
    obtain ⟨a, b⟩ := ih (fun i hi => h (i + 1) (by simp; omega))
    refine ⟨by show 0 ≤ v + w_ls l; omega, fun i hi => ?_⟩
    cases i with
    | zero => show v ≤ v + w_ls l; omega
    | succ i =>
      have := b i (by simp at hi; omega)
      show l.getD i 0 ≤ v + w_ls l
      omega
theorem w_ls_le : ∀ l : List Int, (∀ i, i < l.length → l.getD i 0 ≤ 99) → w_ls l ≤ 99 * l.length := by
  intro l
  induction l with
  | nil => intro _; exact Int.le_refl _
  | cons v l ih =>
    intro h
    have h0 : v ≤ 99 := h 0 (by simp)
    have := ih (fun i hi => h (i + 1) (by simp; omega))
    show v + w_ls l ≤ 99 * ((l.length + 1 : Nat) : Int)
    omega
theorem getD_out (l : List Int) {k : Nat} (h : l.length ≤ k) : l.getD k 0 = 0 := by
  rw [List.getD_eq_getElem?_getD, List.getElem?_eq_none h]; rfl
theorem w_lk_ge (l : List Int) {n : Nat} (hn : l.length = n) : ∀ k, w_lk l (n + k) = w_ls l := by
  intro k
  induction k with
  | zero => exact w_lk_n hn
  | succ k ih =>
    show w_lk l (n + k) + l.getD (n + k) 0 = w_ls l
    rw [ih, getD_out l (by omega)]; omega
theorem w_sum_lk {f : Nat → Int32} {l : List Int} : ∀ k, k ≤ 8 → (∀ v, v < 8 → (f v).toInt = l.getD v 0) → w_sum f k = w_lk l k := by
  intro k
  induction k with
  | zero => intro _ _; rfl
  | succ k ih =>
    intro hk h
    show w_sum f k + (f k).toInt = w_lk l k + l.getD k 0
    rw [ih (by omega) h, h k (by omega)]
def w_KN : Int32 → Int32 → IS → Option (Int32 × IS) := fun e5 e6 x8 =>
      q_let (q_up x8 9 (fun _ => e6)) fun x29 =>
      if e6 ≤ (1 : Int32) then
        some ((0 : Int32), x29)
      else
        q_b1 (f_X7_isIn e5 (1 : Int32) (16 : Int32)) fun r31 =>
        if r31 = 0 then
          some ((0 : Int32), x29)
        else
          some ((1 : Int32), x29)
theorem KN_t {s : Int} {m : Nat} {y : IS} (h1 : 1 ≤ s) (h2 : s ≤ 16) (h3 : 2 ≤ m) (h4 : m ≤ 8) : w_KN (iI s) (iI m) y = some (1, q_up y 9 (fun _ => iI m)) := by
  unfold w_KN
  rw [q_let_r, if_neg (by rw [show (1 : Int32) = iI 1 from rfl, iI_le (by omega) (by omega) (by omega) (by omega)]; omega)]
  refine (q_b1_s (isIn_t (b := 1) (c := 16) h1 h2 (by omega) (by omega))).trans ?_
  rw [if_neg nz1]
theorem KN_f {s : Int} {m : Nat} {y : IS} (h0 : 0 ≤ s) (h0' : s ≤ 200) (h4 : m ≤ 8) (h : ¬ (2 ≤ m ∧ 1 ≤ s ∧ s ≤ 16)) : w_KN (iI s) (iI m) y = some (0, q_up y 9 (fun _ => iI m)) := by
  unfold w_KN
  rw [q_let_r]
  by_cases hm : m ≤ 1
  · rw [if_pos (by rw [show (1 : Int32) = iI 1 from rfl, iI_le (by omega) (by omega) (by omega) (by omega)]; omega)]
  · rw [if_neg (by rw [show (1 : Int32) = iI 1 from rfl, iI_le (by omega) (by omega) (by omega) (by omega)]; omega)]
    refine (q_b1_s (isIn_f (b := 1) (c := 16) (by omega) (by omega) (by omega) (by omega) (by omega) (by omega) (by omega))).trans ?_
    rw [if_pos zz0]
theorem item_d {L : Nat → Int} {len p c : Nat} {x y : IS} (hx : w_lx L len x) (hy : w_ly L len y) (hT : w_T c x y) (hp : p < len) (hw : w_wd L p 3) : w_good L len p x y ∨ (w_badX p x ∧ w_badY L p y) := by
  have hl := hx.1
  have hno := wd_no (by omega) hw
  obtain ⟨hTc, hTl, hTm, hTd⟩ := hT
  by_cases hg : ∃ l e, w_N L l (p + 5) e ∧ L e = 59 ∧ 2 ≤ l.length ∧ l.length ≤ 8 ∧ 1 ≤ w_ls l ∧ w_ls l ≤ 16
  · obtain ⟨l, e, a1, a2, a3, a4, a5, a6⟩ := hg
    obtain ⟨n1, n2, n3, n4, n5⟩ := w_N_no _ _ _ a1
    obtain ⟨b1, b2, b3, x1, b4, b5, b6⟩ := cls_num hx hno a1 a2 (by omega)
    obtain ⟨y1, d1, d12, d11, -, df⟩ := nsA w_KN l 1000 (p + 5) e 0 0 y hy a1 (by omega) (by omega) (by omega) (by omega)
    rw [Int.zero_add, Nat.zero_add] at d1
    obtain ⟨x', e1, e2, e3⟩ := setW_t (x := x1) (l := l) rfl a3 a4 b5 a5 a6
    obtain ⟨-, hle⟩ := w_ls_ge l (fun i hi => (n4 i hi).1)
    have hv : ∀ v, v < 8 → (x' 5 v).toInt = l.getD v 0 := by
      intro v hv
      rw [e3 v hv]
      by_cases hvn : v < l.length
      · have := n4 v hvn
        rw [if_pos hvn, b5 v hvn, iI_toInt (by omega) (by omega)]
      · rw [if_neg hvn, getD_out l (by omega)]; rfl
    refine Or.inl ⟨e, c, x', q_up y1 9 (fun _ => iI l.length), b1, b2, a2, b3, ?_, ?_, by rw [q_up_n _ _ (by decide)]; exact d12, ⟨?_, ?_, ?_, l.length, a4, by rw [q_up_s], fun v hv => ?_, fun v hv2 => ?_, ?_, ?_⟩, fun k hk => ?_, fun k hk => ?_⟩
    · rw [ri_d hx (by omega) hw]
      refine (q_b2_s b4).trans ?_
      exact q_b2_s e1
    · rw [rr_d hy (by omega) hw]
      refine (q_b2_s (a := 1) (b := q_up y1 9 (fun _ => iI l.length)) (d1.trans (KN_t a5 a6 a3 a4))).trans ?_
      rw [if_neg (by decide)]
    · exact w_Tc_k hTc (by rw [e2 3 (by decide), b6 3 (by decide)]) (by rw [e2 6 (by decide), b6 6 (by decide)]) (by rw [q_up_n _ _ (by decide)]; exact df 8 (by decide) (by decide)) (fun k hk => by rw [q_up_n _ _ (by decide), df 10 (by decide) (by decide)])
    · exact w_Tl_k hTl (by rw [e2 4 (by decide), b6 4 (by decide)]) (fun k hk => by rw [q_up_n _ _ (by decide), df 10 (by decide) (by decide)])
    · exact w_Tm_k hTm (by rw [e2 7 (by decide), b6 7 (by decide)]) (by rw [q_up_n _ _ (by decide), df 10 (by decide) (by decide)])
    · rw [e3 v hv, q_up_n _ _ (by decide)]
      by_cases hvn : v < l.length
      · have q := d11 v hvn
        rw [Nat.zero_add] at q
        rw [if_pos hvn, if_pos hvn, b5 v hvn, q]
      · rw [if_neg hvn, if_neg hvn]
    · rw [hv v hv2]
      by_cases hvn : v < l.length
      · have := n4 v hvn
        have := hle v hvn
        omega
      · rw [getD_out l (by omega)]; omega
    · rw [w_sum_lk 8 (by omega) hv, show 8 = l.length + (8 - l.length) by omega, w_lk_ge l rfl]; exact a5
    · rw [w_sum_lk 8 (by omega) hv, show 8 = l.length + (8 - l.length) by omega, w_lk_ge l rfl]; exact a6
    · rw [e2 k (by omega), b6 k (by omega)]
    · rw [q_up_n _ _ (by omega), df k (by omega) (by omega)]
  · refine Or.inr ⟨cls_bad hx hp hno (ri_d hx (by omega) hw) (fun z => setW_n (by omega) (by omega) (by omega)) (fun l e z a1 a2 a3 a4 a5 => ?_), ?_⟩
    · obtain ⟨n1, n2, n3, n4, n5⟩ := w_N_no _ _ _ a1
      by_cases h5 : 2 ≤ l.length ∧ l.length ≤ 8
      · have := w_ls_le l (fun i hi => (n4 i hi).2)
        refine setW_f rfl h5.1 h5.2 a4 n3 (by omega) ?_
        by_cases hs : 1 ≤ w_ls l ∧ w_ls l ≤ 16
        · exact absurd ⟨l, e, a1, a2, h5.1, h5.2, hs.1, hs.2⟩ hg
        · omega
      · exact setW_n (by omega) (by omega) (by omega)
    · obtain ⟨y', f1, f2⟩ := nsB w_KN 201 1000 (p + 5) 0 0 y hy (by omega) (by omega) (by omega) (by omega) (by omega) (by omega) (fun l e a1 hh => hg ⟨l, e, a1, hh.1, by omega, by omega, by omega, by omega⟩)
      unfold w_badY
      rw [rr_d hy (by omega) hw]
      rcases f2 with f2 | ⟨s, m, e, f2, g1, g2, g3, g4, g5, g6⟩
      · exact ⟨y', f1, Or.inl (q_b2_s (k := fun r z => if r = 0 then some (0, z) else some (1, z)) f2)⟩
      · refine ⟨q_up y' 9 (fun _ => iI m), fun k hk => by rw [q_up_n _ _ (by omega)]; exact f1 k hk, ?_⟩
        by_cases hk : 2 ≤ m ∧ 1 ≤ s ∧ s ≤ 16
        · refine Or.inr ⟨q_b2_s (k := fun r z => if r = 0 then some (0, z) else some (1, z)) (f2.trans (KN_t hk.2.1 hk.2.2 hk.1 g3)), e, g4, by rw [q_up_n _ _ (by decide)]; exact g5, fun hh => g6 ⟨hh, hk⟩⟩
        · exact Or.inl (q_b2_s (k := fun r z => if r = 0 then some (0, z) else some (1, z)) (f2.trans (KN_f g1 g2 g3 hk)))
theorem item_s {L : Nat → Int} {len p c : Nat} {x y : IS} (hx : w_lx L len x) (hy : w_ly L len y) (hT : w_T c x y) (hp : p < len) : w_good L len p x y ∨ (w_badX p x ∧ w_badY L p y) := by
  by_cases h0 : w_wd L p 0
  · exact item_m hx hy hT hp h0
  by_cases h1 : w_wd L p 1
  · exact item_c hx hy hT hp h1
  by_cases h2 : w_wd L p 2
  · exact item_l hx hy hT hp h2
  by_cases h3 : w_wd L p 3
  · exact item_d hx hy hT hp h3
  exact Or.inr (item_n hx hy hp h0 h1 h2 h3)
/-! the whole text -/
theorem text_l {L : Nat → Int} {len : Nat} : ∀ (t fx fy p it c : Nat) (x y : IS), 201 ≤ p + t → t < fx → t < fy → p ≤ 201 → it ≤ p → w_lx L len x → w_ly L len y → w_T c x y →
    ∃ (r : Int) (x' y' : IS), f_X4_readInto_L8 (fun x6 => some ((-4 : Int32), x6)) fx (iI p) (iI it) x = some (iI r, x') ∧ f_X7_reads_L6 (fun x5 => some ((-4 : Int32), x5)) fy (iI p) y = some (iI r, y') ∧ w_fx x' x ∧ w_fy y' y ∧ -4 ≤ r ∧ r ≤ 200 ∧ (r = -4 → ∃ c', w_T c' x' y') := by
  intro t
  induction t with
  | zero =>
    intro fx fy p it c x y hp h1 h2 _ hit hx hy hT
    obtain ⟨fx, rfl⟩ : ∃ z, fx = z + 1 := ⟨fx - 1, by omega⟩
    obtain ⟨fy, rfl⟩ : ∃ z, fy = z + 1 := ⟨fy - 1, by omega⟩
    have hl := hx.1
    refine ⟨-4, x, y, ?_, ?_, fun _ _ => rfl, fun _ _ => rfl, by omega, by omega, fun _ => ⟨c, hT⟩⟩
    · show f_X4_readInto_L8F _ _ (iI p) (iI it) x = _
      unfold f_X4_readInto_L8F
      rw [hx.2.1, if_pos (show iI (len : Int) ≤ iI p by rw [iI_le (by omega) (by omega) (by omega) (by omega)]; omega)]
      split <;> rfl
    · show f_X7_reads_L6F _ _ (iI p) y = _
      unfold f_X7_reads_L6F
      rw [hy.2.1, if_pos (show iI (len : Int) ≤ iI p by rw [iI_le (by omega) (by omega) (by omega) (by omega)]; omega)]
      rfl
  | succ t ih =>
    intro fx fy p it c x y hp h1 h2 hp2 hit hx hy hT
    obtain ⟨fx, rfl⟩ : ∃ z, fx = z + 1 := ⟨fx - 1, by omega⟩
    obtain ⟨fy, rfl⟩ : ∃ z, fy = z + 1 := ⟨fy - 1, by omega⟩
    have hl := hx.1
    by_cases hpl : p < len
    · have sx : f_X4_readInto_L8 (fun x6 => some ((-4 : Int32), x6)) (fx + 1) (iI p) (iI it) x = q_b1 (f_X4_endOfItem x (iI p)) fun r9 =>
          if r9 = (-4 : Int32) then some (iI p, x)
          else
            q_b2 (f_X4_readItem x (iI p) r9) fun r13 x14 =>
            if r13 = 0 then some (iI p, x14)
            else
              q_let ((r9 + (1 : Int32))) fun v18 =>
              q_let (iI it + 1) fun v19 =>
              f_X4_readInto_L8 (fun x6 => some ((-4 : Int32), x6)) fx v18 v19 x14 := by
        show f_X4_readInto_L8F _ _ (iI p) (iI it) x = _
        unfold f_X4_readInto_L8F
        rw [if_neg (by rw [show (200 : Int32) = iI 200 from rfl, iI_le (by omega) (by omega) (by omega) (by omega)]; omega), hx.2.1, if_neg (show ¬ iI (len : Int) ≤ iI p by rw [iI_le (by omega) (by omega) (by omega) (by omega)]; omega)]
      have sy : f_X7_reads_L6 (fun x5 => some ((-4 : Int32), x5)) (fy + 1) (iI p) y = q_b2 (f_X7_readsItem y (iI p)) fun r7 x8 =>
          if r7 = 0 then some (iI p, x8)
          else
            q_b1 (f_X7_letterAt x8 (x8 12 0)) fun r12 =>
            if r12 = (59 : Int32) then
              q_let (((x8 12 0) + (1 : Int32))) fun v16 =>
              f_X7_reads_L6 (fun x5 => some ((-4 : Int32), x5)) fy v16 x8
            else some (iI p, x8) := by
        show f_X7_reads_L6F _ _ (iI p) y = _
        unfold f_X7_reads_L6F
        rw [hy.2.1, if_neg (show ¬ iI (len : Int) ≤ iI p by rw [iI_le (by omega) (by omega) (by omega) (by omega)]; omega)]
      rcases item_s hx hy hT hpl with ⟨E, c', x1, y1, e1, e2, e3, e4, e5, e6, e7, e8, e9, e10⟩ | ⟨bx, by'⟩
      · have hx1 : w_lx L len x1 := w_lx_k hx (e9 0 (by omega)) (e9 2 (by omega))
        have hy1 : w_ly L len y1 := w_ly_k hy (e10 0 (by omega)) (e10 1 (by omega))
        obtain ⟨r, x', y', f1, f2, f3, f4, f5, f6, f7⟩ := ih fx fy (E + 1) (it + 1) c' x1 y1 (by omega) (by omega) (by omega) (by omega) (by omega) hx1 hy1 e8
        refine ⟨r, x', y', ?_, ?_, fun k hk => (f3 k hk).trans (e9 k hk), fun k hk => (f4 k hk).trans (e10 k hk), f5, f6, f7⟩
        · rw [sx]
          refine (q_b1_s e4).trans ?_
          rw [if_neg (by rw [show (-4 : Int32) = iI (-4) by decide, iI_eq (by omega) (by omega) (by omega) (by omega)]; omega)]
          refine (q_b2_s e5).trans ?_
          rw [if_neg (by decide), q_let_r, q_let_r, pp1, pp1]
          exact f1
        · rw [sy]
          refine (q_b2_s e6).trans ?_
          rw [if_neg (by decide), e7]
          refine (q_b1_s (lAt hy1 (by omega))).trans ?_
          rw [e3, if_pos (by decide), q_let_r, pp1]
          exact f2
      · obtain ⟨x1, ex, fx1⟩ : ∃ x1 : IS, f_X4_readInto_L8 (fun x6 => some ((-4 : Int32), x6)) (fx + 1) (iI p) (iI it) x = some (iI p, x1) ∧ w_fx x1 x := by
          rcases bx with h4 | ⟨E, x1, hE, h4, h5, hf⟩
          · refine ⟨x, ?_, fun _ _ => rfl⟩
            rw [sx]
            refine (q_b1_s h4).trans ?_
            rw [if_pos (by decide)]
          · refine ⟨x1, ?_, hf⟩
            rw [sx]
            refine (q_b1_s h4).trans ?_
            rw [if_neg (by rw [show (-4 : Int32) = iI (-4) by decide, iI_eq (by omega) (by omega) (by omega) (by omega)]; omega)]
            refine (q_b2_s h5).trans ?_
            rw [if_pos rfl]
        obtain ⟨y1, fy1, hb⟩ := by'
        refine ⟨p, x1, y1, ex, ?_, fx1, fy1, by omega, by omega, fun h => by omega⟩
        rw [sy]
        rcases hb with hb | ⟨hb, e, he, h12, h59⟩
        · refine (q_b2_s hb).trans ?_
          rw [if_pos rfl]
        · have hy1 : w_ly L len y1 := w_ly_k hy (fy1 0 (by omega)) (fy1 1 (by omega))
          have r := hy.2.2.1 e
          refine (q_b2_s hb).trans ?_
          rw [if_neg (by decide), h12]
          refine (q_b1_s (lAt hy1 (by omega))).trans ?_
          rw [if_neg (by rw [show (59 : Int32) = iI 59 from rfl, iI_eq (by omega) (by omega) (by omega) (by omega)]; omega)]
    · refine ⟨-4, x, y, ?_, ?_, fun _ _ => rfl, fun _ _ => rfl, by omega, by omega, fun _ => ⟨c, hT⟩⟩
      · show f_X4_readInto_L8F _ _ (iI p) (iI it) x = _
        unfold f_X4_readInto_L8F
        rw [hx.2.1, if_pos (show iI (len : Int) ≤ iI p by rw [iI_le (by omega) (by omega) (by omega) (by omega)]; omega)]
        split <;> rfl
      · show f_X7_reads_L6F _ _ (iI p) y = _
        unfold f_X7_reads_L6F
        rw [hy.2.1, if_pos (show iI (len : Int) ≤ iI p by rw [iI_le (by omega) (by omega) (by omega) (by omega)]; omega)]
        rfl
end
