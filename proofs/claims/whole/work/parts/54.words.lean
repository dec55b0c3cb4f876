section
theorem pp1 (p : Nat) : iI (p : Int) + 1 = iI ((p + 1 : Nat) : Int) := by rw [show (1 : Int32) = iI 1 from rfl, iI_add]; rfl
theorem pp2 (p : Nat) : iI (p : Int) + 2 = iI ((p + 2 : Nat) : Int) := by rw [show (2 : Int32) = iI 2 from rfl, iI_add]; rfl
theorem pp3 (p : Nat) : iI (p : Int) + 3 = iI ((p + 3 : Nat) : Int) := by rw [show (3 : Int32) = iI 3 from rfl, iI_add]; rfl
theorem isW_t {L : Nat → Int} {len : Nat} {y : IS} (h : w_ly L len y) {p : Nat} {a b c d : Int} (hp : p ≤ 900) (h0 : L p = a) (h1 : L (p + 1) = b) (h2 : L (p + 2) = c) (h3 : L (p + 3) = d) : f_X7_isWord y (iI p) (iI a) (iI b) (iI c) (iI d) = some (iI 1) := by
  have a0 := lAt h (p := p) (by omega)
  have a1 := lAt h (p := p + 1) (by omega)
  have a2 := lAt h (p := p + 2) (by omega)
  have a3 := lAt h (p := p + 3) (by omega)
  rw [h0] at a0; rw [h1] at a1; rw [h2] at a2; rw [h3] at a3
  unfold f_X7_isWord
  rw [pp1, pp2, pp3]
  refine (q_b1_s a0).trans ?_
  rw [if_pos rfl]
  refine (q_b1_s a1).trans ?_
  rw [if_pos rfl]
  refine (q_b1_s a2).trans ?_
  rw [if_pos rfl]
  refine (q_b1_s a3).trans ?_
  rw [if_pos rfl]
  rfl
theorem isW_f {L : Nat → Int} {len : Nat} {y : IS} (h : w_ly L len y) {p : Nat} {a b c d : Int} (hp : p ≤ 900) (ha : 0 ≤ a ∧ a ≤ 200) (hb : 0 ≤ b ∧ b ≤ 200) (hc : 0 ≤ c ∧ c ≤ 200) (hd : 0 ≤ d ∧ d ≤ 200) (hn : ¬ (L p = a ∧ L (p + 1) = b ∧ L (p + 2) = c ∧ L (p + 3) = d)) : f_X7_isWord y (iI p) (iI a) (iI b) (iI c) (iI d) = some (iI 0) := by
  have a0 := lAt h (p := p) (by omega)
  have a1 := lAt h (p := p + 1) (by omega)
  have a2 := lAt h (p := p + 2) (by omega)
  have a3 := lAt h (p := p + 3) (by omega)
  have r0 := h.2.2.1 p
  have r1 := h.2.2.1 (p + 1)
  have r2 := h.2.2.1 (p + 2)
  have r3 := h.2.2.1 (p + 3)
  unfold f_X7_isWord
  rw [pp1, pp2, pp3]
  refine (q_b1_s a0).trans ?_
  by_cases c0 : L p = a
  · rw [if_pos (congrArg iI c0)]
    refine (q_b1_s a1).trans ?_
    by_cases c1 : L (p + 1) = b
    · rw [if_pos (congrArg iI c1)]
      refine (q_b1_s a2).trans ?_
      by_cases c2 : L (p + 2) = c
      · rw [if_pos (congrArg iI c2)]
        refine (q_b1_s a3).trans ?_
        rw [if_neg (by rw [iI_eq (by omega) (by omega) (by omega) (by omega)]; omega)]
        rfl
      · rw [if_neg (by rw [iI_eq (by omega) (by omega) (by omega) (by omega)]; omega)]
        rfl
    · rw [if_neg (by rw [iI_eq (by omega) (by omega) (by omega) (by omega)]; omega)]
      rfl
  · rw [if_neg (by rw [iI_eq (by omega) (by omega) (by omega) (by omega)]; omega)]
    rfl
theorem wd5 {L : Nat → Int} {p wi : Nat} (h5 : q_len.getD wi 0 = 5) : w_wd L p wi ↔ (L p = w_ch wi 0 ∧ L (p + 1) = w_ch wi 1 ∧ L (p + 2) = w_ch wi 2 ∧ L (p + 3) = w_ch wi 3) ∧ L (p + 4) = w_ch wi 4 := by
  unfold w_wd; rw [h5]
  refine ⟨fun h => ⟨⟨h 0 (by omega), h 1 (by omega), h 2 (by omega), h 3 (by omega)⟩, h 4 (by omega)⟩, fun h k hk => ?_⟩
  obtain ⟨⟨h0, h1, h2, h3⟩, h4⟩ := h
  match k, hk with
  | 0, _ => exact h0
  | 1, _ => exact h1
  | 2, _ => exact h2
  | 3, _ => exact h3
  | 4, _ => exact h4
theorem wd4 {L : Nat → Int} {p wi : Nat} (h4 : q_len.getD wi 0 = 4) : w_wd L p wi ↔ (L p = w_ch wi 0 ∧ L (p + 1) = w_ch wi 1 ∧ L (p + 2) = w_ch wi 2 ∧ L (p + 3) = w_ch wi 3) := by
  unfold w_wd; rw [h4]
  refine ⟨fun h => ⟨h 0 (by omega), h 1 (by omega), h 2 (by omega), h 3 (by omega)⟩, fun h k hk => ?_⟩
  obtain ⟨h0, h1, h2, h3⟩ := h
  match k, hk with
  | 0, _ => exact h0
  | 1, _ => exact h1
  | 2, _ => exact h2
  | 3, _ => exact h3
theorem wdm {L : Nat → Int} {p : Nat} : w_wd L p 0 ↔ (L p = 109 ∧ L (p + 1) = 111 ∧ L (p + 2) = 100 ∧ L (p + 3) = 101) ∧ L (p + 4) = 32 := wd5 (by decide)
theorem wdc {L : Nat → Int} {p : Nat} : w_wd L p 1 ↔ (L p = 99 ∧ L (p + 1) = 101 ∧ L (p + 2) = 108 ∧ L (p + 3) = 108) ∧ L (p + 4) = 32 := wd5 (by decide)
theorem wdl {L : Nat → Int} {p : Nat} : w_wd L p 2 ↔ (L p = 108 ∧ L (p + 1) = 111 ∧ L (p + 2) = 111 ∧ L (p + 3) = 107) ∧ L (p + 4) = 32 := wd5 (by decide)
theorem wdd {L : Nat → Int} {p : Nat} : w_wd L p 3 ↔ (L p = 100 ∧ L (p + 1) = 105 ∧ L (p + 2) = 99 ∧ L (p + 3) = 101) ∧ L (p + 4) = 32 := wd5 (by decide)
theorem wd_b {L : Nat → Int} {p : Nat} : w_wd L p 4 ↔ (L p = 98 ∧ L (p + 1) = 111 ∧ L (p + 2) = 116 ∧ L (p + 3) = 104) := wd4 (by decide)
theorem wd_m {L : Nat → Int} {p : Nat} : w_wd L p 5 ↔ (L p = 109 ∧ L (p + 1) = 111 ∧ L (p + 2) = 114 ∧ L (p + 3) = 101) := wd4 (by decide)
theorem wd_l {L : Nat → Int} {p : Nat} : w_wd L p 6 ↔ (L p = 108 ∧ L (p + 1) = 101 ∧ L (p + 2) = 115 ∧ L (p + 3) = 115) := wd4 (by decide)
theorem p5 (p : Nat) : iI (p : Int) + 5 = iI ((p + 5 : Nat) : Int) := by rw [show (5 : Int32) = iI 5 from rfl, iI_add]; rfl
theorem p4 (p : Nat) : iI (p : Int) + 4 = iI ((p + 4 : Nat) : Int) := by rw [show (4 : Int32) = iI 4 from rfl, iI_add]; rfl
theorem nz1 : ¬ iI 1 = 0 := by decide
theorem zz0 : iI 0 = 0 := by decide
/-! the class's item, by its word -/
theorem ri_m {L : Nat → Int} {len : Nat} {x : IS} (h : w_lx L len x) {p : Nat} (hp : p ≤ 800) (hw : w_wd L p 0) (e : Int32) : f_X4_readItem x (iI p) e = q_b2 (f_X4_readMode x (iI ((p + 5 : Nat) : Int)) e) fun r z => some (r, z) := by
  unfold f_X4_readItem
  rw [p5, q_let_r]
  refine (q_b1_s (stands_t h (wi := 0) (by omega) (by omega) hw)).trans ?_
  rw [if_neg nz1]
theorem ri_c {L : Nat → Int} {len : Nat} {x : IS} (h : w_lx L len x) {p : Nat} (hp : p ≤ 800) (hw : w_wd L p 1) (e : Int32) : f_X4_readItem x (iI p) e = q_b2 (f_X4_readNumbers x (iI ((p + 5 : Nat) : Int)) e) fun r z => q_b2 (f_X5_addCells z r) fun r2 z2 => some (r2, z2) := by
  have w := wdc.1 hw
  unfold f_X4_readItem
  rw [p5, q_let_r]
  refine (q_b1_s (stands_f h (wi := 0) (q := p + 5) (by omega) (by omega) (by omega) (fun hh => by have := wdm.1 hh.2; omega))).trans ?_
  rw [if_pos zz0]
  refine (q_b1_s (stands_t h (wi := 1) (by omega) (by omega) hw)).trans ?_
  rw [if_neg nz1]
theorem ri_l {L : Nat → Int} {len : Nat} {x : IS} (h : w_lx L len x) {p : Nat} (hp : p ≤ 800) (hw : w_wd L p 2) (e : Int32) : f_X4_readItem x (iI p) e = q_b2 (f_X4_readNumbers x (iI ((p + 5 : Nat) : Int)) e) fun r z => q_b2 (f_X5_setLookTo z r) fun r2 z2 => some (r2, z2) := by
  have w := wdl.1 hw
  unfold f_X4_readItem
  rw [p5, q_let_r]
  refine (q_b1_s (stands_f h (wi := 0) (q := p + 5) (by omega) (by omega) (by omega) (fun hh => by have := wdm.1 hh.2; omega))).trans ?_
  rw [if_pos zz0]
  refine (q_b1_s (stands_f h (wi := 1) (q := p + 5) (by omega) (by omega) (by omega) (fun hh => by have := wdc.1 hh.2; omega))).trans ?_
  rw [if_pos zz0]
  refine (q_b1_s (stands_t h (wi := 2) (by omega) (by omega) hw)).trans ?_
  rw [if_neg nz1]
theorem ri_d {L : Nat → Int} {len : Nat} {x : IS} (h : w_lx L len x) {p : Nat} (hp : p ≤ 800) (hw : w_wd L p 3) (e : Int32) : f_X4_readItem x (iI p) e = q_b2 (f_X4_readNumbers x (iI ((p + 5 : Nat) : Int)) e) fun r z => q_b2 (f_X5_setWeightsTo z r) fun r2 z2 => some (r2, z2) := by
  have w := wdd.1 hw
  unfold f_X4_readItem
  rw [p5, q_let_r]
  refine (q_b1_s (stands_f h (wi := 0) (q := p + 5) (by omega) (by omega) (by omega) (fun hh => by have := wdm.1 hh.2; omega))).trans ?_
  rw [if_pos zz0]
  refine (q_b1_s (stands_f h (wi := 1) (q := p + 5) (by omega) (by omega) (by omega) (fun hh => by have := wdc.1 hh.2; omega))).trans ?_
  rw [if_pos zz0]
  refine (q_b1_s (stands_f h (wi := 2) (q := p + 5) (by omega) (by omega) (by omega) (fun hh => by have := wdl.1 hh.2; omega))).trans ?_
  rw [if_pos zz0]
  refine (q_b1_s (stands_t h (wi := 3) (by omega) (by omega) hw)).trans ?_
  rw [if_neg nz1]
theorem ri_n {L : Nat → Int} {len : Nat} {x : IS} (h : w_lx L len x) {p : Nat} (hp : p ≤ 800) (h0 : ¬ w_wd L p 0) (h1 : ¬ w_wd L p 1) (h2 : ¬ w_wd L p 2) (h3 : ¬ w_wd L p 3) (e : Int32) : f_X4_readItem x (iI p) e = some (0, x) := by
  unfold f_X4_readItem
  rw [p5, q_let_r]
  refine (q_b1_s (stands_f h (wi := 0) (q := p + 5) (by omega) (by omega) (by omega) (fun hh => h0 hh.2))).trans ?_
  rw [if_pos zz0]
  refine (q_b1_s (stands_f h (wi := 1) (q := p + 5) (by omega) (by omega) (by omega) (fun hh => h1 hh.2))).trans ?_
  rw [if_pos zz0]
  refine (q_b1_s (stands_f h (wi := 2) (q := p + 5) (by omega) (by omega) (by omega) (fun hh => h2 hh.2))).trans ?_
  rw [if_pos zz0]
  refine (q_b1_s (stands_f h (wi := 3) (q := p + 5) (by omega) (by omega) (by omega) (fun hh => h3 hh.2))).trans ?_
  rw [if_pos zz0]
/-! the reference's item, by its word -/
theorem rr_c {L : Nat → Int} {len : Nat} {y : IS} (h : w_ly L len y) {p : Nat} (hp : p ≤ 800) (hw : w_wd L p 1) : f_X7_readsItem y (iI p) = q_b2 (f_X7_readsCells y (iI ((p + 5 : Nat) : Int))) fun r z => some (r, z) := by
  have w := wdc.1 hw
  unfold f_X7_readsItem
  rw [p5, p4]
  refine (q_b1_s (lAt h (by omega))).trans ?_
  rw [w.2, if_pos (by decide)]
  refine (q_b1_s (isW_t h (by omega) w.1.1 w.1.2.1 w.1.2.2.1 w.1.2.2.2)).trans ?_
  rw [if_neg nz1]
theorem rr_l {L : Nat → Int} {len : Nat} {y : IS} (h : w_ly L len y) {p : Nat} (hp : p ≤ 800) (hw : w_wd L p 2) : f_X7_readsItem y (iI p) = q_b2 (f_X7_readsLook y (iI ((p + 5 : Nat) : Int))) fun r z => some (r, z) := by
  have w := wdl.1 hw
  unfold f_X7_readsItem
  rw [p5, p4]
  refine (q_b1_s (lAt h (by omega))).trans ?_
  rw [w.2, if_pos (by decide)]
  refine (q_b1_s (isW_f h (a := 99) (b := 101) (c := 108) (d := 108) (by omega) (by omega) (by omega) (by omega) (by omega) (by omega))).trans ?_
  rw [if_pos zz0]
  refine (q_b1_s (isW_t h (by omega) w.1.1 w.1.2.1 w.1.2.2.1 w.1.2.2.2)).trans ?_
  rw [if_neg nz1]
theorem rr_m {L : Nat → Int} {len : Nat} {y : IS} (h : w_ly L len y) {p : Nat} (hp : p ≤ 800) (hw : w_wd L p 0) : f_X7_readsItem y (iI p) = q_b2 (f_X7_readsMode y (iI ((p + 5 : Nat) : Int))) fun r z => some (r, z) := by
  have w := wdm.1 hw
  unfold f_X7_readsItem
  rw [p5, p4]
  refine (q_b1_s (lAt h (by omega))).trans ?_
  rw [w.2, if_pos (by decide)]
  refine (q_b1_s (isW_f h (a := 99) (b := 101) (c := 108) (d := 108) (by omega) (by omega) (by omega) (by omega) (by omega) (by omega))).trans ?_
  rw [if_pos zz0]
  refine (q_b1_s (isW_f h (a := 108) (b := 111) (c := 111) (d := 107) (by omega) (by omega) (by omega) (by omega) (by omega) (by omega))).trans ?_
  rw [if_pos zz0]
  refine (q_b1_s (isW_t h (by omega) w.1.1 w.1.2.1 w.1.2.2.1 w.1.2.2.2)).trans ?_
  rw [if_neg nz1]
theorem rr_d {L : Nat → Int} {len : Nat} {y : IS} (h : w_ly L len y) {p : Nat} (hp : p ≤ 800) (hw : w_wd L p 3) : f_X7_readsItem y (iI p) = q_b2 (f_X7_readsNoise y (iI ((p + 5 : Nat) : Int))) fun r z => if r = 0 then some (0, z) else some (1, z) := by
  have w := wdd.1 hw
  unfold f_X7_readsItem
  rw [p5, p4]
  refine (q_b1_s (lAt h (by omega))).trans ?_
  rw [w.2, if_pos (by decide)]
  refine (q_b1_s (isW_f h (a := 99) (b := 101) (c := 108) (d := 108) (by omega) (by omega) (by omega) (by omega) (by omega) (by omega))).trans ?_
  rw [if_pos zz0]
  refine (q_b1_s (isW_f h (a := 108) (b := 111) (c := 111) (d := 107) (by omega) (by omega) (by omega) (by omega) (by omega) (by omega))).trans ?_
  rw [if_pos zz0]
  refine (q_b1_s (isW_f h (a := 109) (b := 111) (c := 100) (d := 101) (by omega) (by omega) (by omega) (by omega) (by omega) (by omega))).trans ?_
  rw [if_pos zz0]
  refine (q_b1_s (isW_t h (by omega) w.1.1 w.1.2.1 w.1.2.2.1 w.1.2.2.2)).trans ?_
  rw [if_neg nz1]
theorem rr_n {L : Nat → Int} {len : Nat} {y : IS} (h : w_ly L len y) {p : Nat} (hp : p ≤ 800) (h0 : ¬ w_wd L p 0) (h1 : ¬ w_wd L p 1) (h2 : ¬ w_wd L p 2) (h3 : ¬ w_wd L p 3) : f_X7_readsItem y (iI p) = some (0, y) := by
  have r := h.2.2.1 (p + 4)
  unfold f_X7_readsItem
  rw [p5, p4]
  refine (q_b1_s (lAt h (by omega))).trans ?_
  by_cases hb : L (p + 4) = 32
  · rw [hb, if_pos (by decide)]
    refine (q_b1_s (isW_f h (a := 99) (b := 101) (c := 108) (d := 108) (by omega) (by omega) (by omega) (by omega) (by omega) (fun hh => h1 (wdc.2 ⟨hh, hb⟩)))).trans ?_
    rw [if_pos zz0]
    refine (q_b1_s (isW_f h (a := 108) (b := 111) (c := 111) (d := 107) (by omega) (by omega) (by omega) (by omega) (by omega) (fun hh => h2 (wdl.2 ⟨hh, hb⟩)))).trans ?_
    rw [if_pos zz0]
    refine (q_b1_s (isW_f h (a := 109) (b := 111) (c := 100) (d := 101) (by omega) (by omega) (by omega) (by omega) (by omega) (fun hh => h0 (wdm.2 ⟨hh, hb⟩)))).trans ?_
    rw [if_pos zz0]
    refine (q_b1_s (isW_f h (a := 100) (b := 105) (c := 99) (d := 101) (by omega) (by omega) (by omega) (by omega) (by omega) (fun hh => h3 (wdd.2 ⟨hh, hb⟩)))).trans ?_
    rw [if_pos zz0]
  · rw [if_neg (by rw [show (32 : Int32) = iI 32 from rfl, iI_eq (by omega) (by omega) (by omega) (by omega)]; omega)]
/-! the mode -/
theorem rm_t {L : Nat → Int} {len : Nat} {x : IS} (h : w_lx L len x) {b j : Nat} (hb : b ≤ 800) (hj : j < 3) (hw : w_wd L b (4 + j)) : f_X4_readMode x (iI b) (iI ((b + 4 : Nat) : Int)) = some (1, q_up x 7 (fun _ => iI j)) := by
  unfold f_X4_readMode
  match j, hj with
  | 0, _ =>
    refine (q_b1_s (stands_t h (wi := 4) (by omega) (by omega) hw)).trans ?_
    rw [if_neg nz1]; rfl
  | 1, _ =>
    have w := wd_m.1 hw
    refine (q_b1_s (stands_f h (wi := 4) (by omega) (by omega) (by omega) (fun hh => by have := wd_b.1 hh.2; omega))).trans ?_
    rw [if_pos zz0]
    refine (q_b1_s (stands_t h (wi := 5) (by omega) (by omega) hw)).trans ?_
    rw [if_neg nz1]; rfl
  | 2, _ =>
    have w := wd_l.1 hw
    refine (q_b1_s (stands_f h (wi := 4) (by omega) (by omega) (by omega) (fun hh => by have := wd_b.1 hh.2; omega))).trans ?_
    rw [if_pos zz0]
    refine (q_b1_s (stands_f h (wi := 5) (by omega) (by omega) (by omega) (fun hh => by have := wd_m.1 hh.2; omega))).trans ?_
    rw [if_pos zz0]
    refine (q_b1_s (stands_t h (wi := 6) (by omega) (by omega) hw)).trans ?_
    rw [if_neg nz1]; rfl
theorem rm_f {L : Nat → Int} {len : Nat} {x : IS} (h : w_lx L len x) {b E : Nat} (hb : b ≤ 800) (hE : E ≤ 800) (hw : ∀ j, j < 3 → ¬ (E = b + 4 ∧ w_wd L b (4 + j))) : f_X4_readMode x (iI b) (iI E) = some (0, x) := by
  unfold f_X4_readMode
  refine (q_b1_s (stands_f h (wi := 4) (by omega) (by omega) (by omega) (hw 0 (by omega)))).trans ?_
  rw [if_pos zz0]
  refine (q_b1_s (stands_f h (wi := 5) (by omega) (by omega) (by omega) (hw 1 (by omega)))).trans ?_
  rw [if_pos zz0]
  refine (q_b1_s (stands_f h (wi := 6) (by omega) (by omega) (by omega) (hw 2 (by omega)))).trans ?_
  rw [if_pos zz0]
theorem sm_t {L : Nat → Int} {len : Nat} {y : IS} (h : w_ly L len y) {b j : Nat} (hb : b ≤ 800) (hj : j < 3) (hw : w_wd L b (4 + j)) : f_X7_readsMode y (iI b) = some (1, q_up (q_up y 10 (upd (y 10) 101 (iI j))) 12 (fun _ => iI ((b + 4 : Nat) : Int))) := by
  unfold f_X7_readsMode
  rw [p4]
  match j, hj with
  | 0, _ =>
    have w := wd_b.1 hw
    refine (q_b1_s (isW_t h (by omega) w.1 w.2.1 w.2.2.1 w.2.2.2)).trans ?_
    refine (q_b1_s (isW_f h (a := 109) (b := 111) (c := 114) (d := 101) (by omega) (by omega) (by omega) (by omega) (by omega) (by omega))).trans ?_
    refine (q_b1_s (isW_f h (a := 108) (b := 101) (c := 115) (d := 115) (by omega) (by omega) (by omega) (by omega) (by omega) (by omega))).trans ?_
    simp only [q_jn_r, q_let_r, if_neg nz1]; rfl
  | 1, _ =>
    have w := wd_m.1 hw
    refine (q_b1_s (isW_f h (a := 98) (b := 111) (c := 116) (d := 104) (by omega) (by omega) (by omega) (by omega) (by omega) (by omega))).trans ?_
    refine (q_b1_s (isW_t h (by omega) w.1 w.2.1 w.2.2.1 w.2.2.2)).trans ?_
    refine (q_b1_s (isW_f h (a := 108) (b := 101) (c := 115) (d := 115) (by omega) (by omega) (by omega) (by omega) (by omega) (by omega))).trans ?_
    simp only [q_jn_r, q_let_r, if_neg nz1, if_pos zz0]; rfl
  | 2, _ =>
    have w := wd_l.1 hw
    refine (q_b1_s (isW_f h (a := 98) (b := 111) (c := 116) (d := 104) (by omega) (by omega) (by omega) (by omega) (by omega) (by omega))).trans ?_
    refine (q_b1_s (isW_f h (a := 109) (b := 111) (c := 114) (d := 101) (by omega) (by omega) (by omega) (by omega) (by omega) (by omega))).trans ?_
    refine (q_b1_s (isW_t h (by omega) w.1 w.2.1 w.2.2.1 w.2.2.2)).trans ?_
    simp only [q_jn_r, q_let_r, if_neg nz1, if_pos zz0]; rfl
theorem sm_f {L : Nat → Int} {len : Nat} {y : IS} (h : w_ly L len y) {b : Nat} (hb : b ≤ 800) (hw : ∀ j, j < 3 → ¬ w_wd L b (4 + j)) : ∃ y' : IS, f_X7_readsMode y (iI b) = some (0, y') ∧ ∀ c, c < 8 → y' c = y c := by
  refine ⟨q_up (q_up y 10 (upd (y 10) 101 (iI 2))) 12 (fun _ => iI ((b + 4 : Nat) : Int)), ?_, fun c hc => by rw [q_up_n _ _ (by omega), q_up_n _ _ (by omega)]⟩
  unfold f_X7_readsMode
  rw [p4]
  refine (q_b1_s (isW_f h (a := 98) (b := 111) (c := 116) (d := 104) (by omega) (by omega) (by omega) (by omega) (by omega) (fun hh => hw 0 (by omega) (wd_b.2 hh)))).trans ?_
  refine (q_b1_s (isW_f h (a := 109) (b := 111) (c := 114) (d := 101) (by omega) (by omega) (by omega) (by omega) (by omega) (fun hh => hw 1 (by omega) (wd_m.2 hh)))).trans ?_
  refine (q_b1_s (isW_f h (a := 108) (b := 101) (c := 115) (d := 115) (by omega) (by omega) (by omega) (by omega) (by omega) (fun hh => hw 2 (by omega) (wd_l.2 hh)))).trans ?_
  simp only [q_jn_r, q_let_r, if_pos zz0]; rfl
end
