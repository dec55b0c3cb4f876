section
theorem w_win_c {n : Nat} {f g : Nat → Int32} {lo hi : Int} {L : List Int32} (h : ∀ k, k < n → f k = g k ∧ f (48 + k) = g (48 + k)) : w_win n f lo hi L = w_win n g lo hi L := by
  unfold w_win
  exact w_from_c _ _ _ (fun k h1 h2 => h k (by omega))
theorem w_floor_c {n : Nat} {f g : Nat → Int32} (i : Nat) (h : ∀ k, k < n → f k = g k ∧ f (48 + k) = g (48 + k)) (h6 : f 96 = g 96) (h7 : f 97 = g 97) (h8 : f 98 = g 98) (h1 : f 101 = g 101) : w_floor n f i = w_floor n g i := by
  have hs : ∀ side, w_side n f i side = w_side n g i side := by
    intro side
    unfold w_side w_behind w_ahead
    simp only [h6, h7, w_win_c h]
  unfold w_floor
  simp only [hs, h8, h1]
def w_by (n : Nat) (f : Nat → Int32) (a : Int32) (i : Nat) : Bool := decide (f (48 + i) = 0 ∧ w_floor n f i ≠ -4 ∧ a * w_floor n f i < f 100 * f i)
theorem w_al_99 {n : Nat} (hn : n ≤ 48) {f : Nat → Int32} (a : Int32) {i : Nat} (hi : i < n) : w_al n (upd f 99 a) i = w_by n f a i := by
  have hfl : w_floor n (upd f 99 a) i = w_floor n f i := w_floor_c i (fun k hk => ⟨upd_n _ _ (by omega), upd_n _ _ (by omega)⟩) (upd_n _ _ (by omega)) (upd_n _ _ (by omega)) (upd_n _ _ (by omega)) (upd_n _ _ (by omega))
  unfold w_al w_by
  rw [hfl, upd_s, upd_n _ _ (show 48 + i ≠ 99 by omega), upd_n _ _ (show 100 ≠ 99 by omega), upd_n _ _ (show i ≠ 99 by omega)]
theorem w_ca_c {al be : Nat → Bool} : ∀ n, (∀ i, i < n → al i = be i) → w_ca al n = w_ca be n
  | 0, _ => rfl
  | n + 1, h => by
    show w_ca al n + _ = w_ca be n + _
    rw [w_ca_c n (fun i hi => h i (by omega)), h n (by omega)]
theorem howByL {n : Nat} {x : IS} {f : Nat → Int32} (hv : w_vw n x f (-4)) (h16 : ∀ k, k < n → x 16 k = w_floor n f k) (a : Int32) (k : Int32 → Option Int32) : ∀ (t fuel i : Nat), i + t = n → t < fuel → f_X0_howManyBy_L5 x a k fuel (iI (w_ca (w_by n f a) i)) (iI i) = k (iI (w_ca (w_by n f a) n)) := by
  intro t
  induction t with
  | zero =>
    intro fuel i h1 h2
    obtain ⟨fuel, rfl⟩ : ∃ z, fuel = z + 1 := ⟨fuel - 1, by omega⟩
    obtain rfl : i = n := by omega
    have := hv.2.1
    show f_X0_howManyBy_L5F x a k (f_X0_howManyBy_L5 x a k fuel) _ (iI i) = _
    simp (disch := omega) only [f_X0_howManyBy_L5F, hv.1, iI_lit, iI_neg, iI_lt, iI_le, iI_eq, iI_add, iI_sub, iI_mul, iI_cl, q_let_r, q_jn_r, q_b1_r, q_b2_r, q_b3_r, if_true, if_false, eq_self, q_gd_in, q_up_s, q_up_n, upd_s, upd_n, if_pos, if_neg]
  | succ t ih =>
    intro fuel i h1 h2
    obtain ⟨fuel, rfl⟩ : ∃ z, fuel = z + 1 := ⟨fuel - 1, by omega⟩
    have n2 := hv.2.1
    have hin : i < n := by omega
    have hz := (hv.2.2.2.1 i hin).1
    have ho : f_X3_outdoes x (iI i) (w_floor n f i) a = some (if w_by n f a i = true then iI 1 else iI 0) := by
      rw [outdoes_s hv hin]
      congr 1
      unfold w_by
      by_cases h : f (48 + i) = 0 ∧ w_floor n f i ≠ -4 ∧ a * w_floor n f i < f 100 * f i
      · rw [if_pos ⟨(hz.mp h.1).1, h.2⟩, if_pos (decide_eq_true h)]
      · rw [if_neg (fun h2 => h ⟨hz.mpr ⟨h2.1, by omega⟩, h2.2⟩), if_neg (fun h2 => h (of_decide_eq_true h2))]
    have e2 := ih fuel (i + 1) (by omega) (by omega)
    have hca : w_ca (w_by n f a) (i + 1) = w_ca (w_by n f a) i + (if w_by n f a i = true then 1 else 0) := rfl
    show f_X0_howManyBy_L5F x a k (f_X0_howManyBy_L5 x a k fuel) _ (iI i) = _
    by_cases ha : w_by n f a i = true
    · rw [if_pos ha] at hca ho
      rw [hca] at e2
      simp (disch := omega) only [f_X0_howManyBy_L5F, hv.1, Int.toNat_natCast, h16 i hin, ho, iI_lit, iI_neg, iI_lt, iI_le, iI_eq, iI_add, iI_sub, iI_mul, iI_cl, q_let_r, q_jn_r, q_b1_r, q_b2_r, q_b3_r, if_true, if_false, eq_self, q_gd_in, q_up_s, q_up_n, upd_s, upd_n, if_pos, if_neg]
      exact e2
    · rw [if_neg ha] at hca ho
      rw [hca] at e2
      simp (disch := omega) only [f_X0_howManyBy_L5F, hv.1, Int.toNat_natCast, h16 i hin, ho, iI_lit, iI_neg, iI_lt, iI_le, iI_eq, iI_add, iI_sub, iI_mul, iI_cl, q_let_r, q_jn_r, q_b1_r, q_b2_r, q_b3_r, if_true, if_false, eq_self, q_gd_in, q_up_s, q_up_n, upd_s, upd_n, if_pos, if_neg]
      exact e2
theorem howBy_s {n : Nat} {x : IS} {f : Nat → Int32} (hv : w_vw n x f (-4)) (h16 : ∀ k, k < n → x 16 k = w_floor n f k) (a : Int32) : f_X0_howManyBy x a = some (iI (w_ca (w_by n f a) n)) := by
  have n2 := hv.2.1
  exact howByL hv h16 a (fun e3 => some e3) n 1000 0 (by omega) (by omega)
def w_en (P : Nat → Bool) : Nat → Nat → Int32
  | 0, _ => -4
  | t + 1, a => if P a = true then iI a else w_en P t (a + 1)
def w_eP (n : Nat) (f : Nat → Int32) (m : Int) (a : Nat) : Bool := decide ((w_ca (w_by n f (iI a)) n : Int) ≤ m)
theorem enoughL {n : Nat} {x : IS} {f : Nat → Int32} {m : Int} (hv : w_vw n x f (-4)) (h16 : ∀ k, k < n → x 16 k = w_floor n f k) (hm0 : 0 ≤ m) (hm : m ≤ 48) : ∀ (t fuel a : Nat), a + t = 41 → t < fuel → f_X6_enough_L25 (iI m) (fun x7 => some ((-4 : Int32), x7)) fuel (iI a) x = some (w_en (w_eP n f m) t a, x) := by
  intro t
  induction t with
  | zero =>
    intro fuel a h1 h2
    obtain ⟨fuel, rfl⟩ : ∃ z, fuel = z + 1 := ⟨fuel - 1, by omega⟩
    show f_X6_enough_L25F (iI m) _ (f_X6_enough_L25 (iI m) _ fuel) (iI a) x = _
    unfold f_X6_enough_L25F
    rw [if_pos (by rw [show (40 : Int32) = iI 40 from rfl, iI_lt (by omega) (by omega) (by omega) (by omega)]; omega)]
    rfl
  | succ t ih =>
    intro fuel a h1 h2
    obtain ⟨fuel, rfl⟩ : ∃ z, fuel = z + 1 := ⟨fuel - 1, by omega⟩
    have n2 := hv.2.1
    have hle := w_ca_le (w_by n f (iI a)) n
    have e2 := ih fuel (a + 1) (by omega) (by omega)
    show f_X6_enough_L25F (iI m) _ (f_X6_enough_L25 (iI m) _ fuel) (iI a) x = _
    unfold f_X6_enough_L25F
    rw [if_neg (by rw [show (40 : Int32) = iI 40 from rfl, iI_lt (by omega) (by omega) (by omega) (by omega)]; omega), q_b1_s (howBy_s hv h16 (iI a)), q_let_r]
    show _ = some (if w_eP n f m a = true then iI a else w_en (w_eP n f m) t (a + 1), x)
    by_cases hP : (w_ca (w_by n f (iI a)) n : Int) ≤ m
    · rw [if_neg (by rw [iI_lt (by omega) (by omega) (by omega) (by omega)]; omega), if_pos (show w_eP n f m a = true from decide_eq_true hP)]
    · rw [if_pos (by rw [iI_lt (by omega) (by omega) (by omega) (by omega)]; omega), if_neg (show ¬ w_eP n f m a = true from fun h => hP (of_decide_eq_true h)), show iI (a : Int) + 1 = iI ((a : Int) + 1) from iI_add _ 1]
      exact e2
theorem upd_upd (f : Nat → Int32) (k : Nat) (a b : Int32) : upd (upd f k a) k b = upd f k b := by
  funext i
  by_cases h : i = k
  · rw [h, upd_s, upd_s]
  · rw [upd_n _ _ h, upd_n _ _ h, upd_n _ _ h]
theorem upd_self (f : Nat → Int32) (k : Nat) : upd f k (f k) = f := by
  funext i
  by_cases h : i = k
  · rw [h, upd_s]
  · rw [upd_n _ _ h]
theorem enoughM {n : Nat} {y : IS} {m : Int} (hmv : w_vm n y) (hm0 : 0 ≤ m) (hm : m ≤ 48) (v5 : Int32) (k : Int32 → IS → Option (Int32 × IS)) : ∀ (t fuel : Nat) (z : IS) (a : Int32), t ≤ 40 → t < fuel → (∀ c, c ≠ 5 → c ≠ 13 → c ≠ 14 → z c = y c) → (∃ u, z 5 = upd (y 5) 99 u) → ∃ z' : IS, f_X7_enough_L27 (iI m) v5 k fuel (w_en (w_eP n (y 5) m) (40 - t) (t + 1)) (iI t) z = k (w_en (w_eP n (y 5) m) 40 1) z' ∧ (∀ c, c ≠ 5 → c ≠ 13 → c ≠ 14 → z' c = y c) ∧ ∃ u, z' 5 = upd (y 5) 99 u := by
  intro t
  induction t with
  | zero =>
    intro fuel z a h1 h2 hz hu
    obtain ⟨fuel, rfl⟩ : ∃ z, fuel = z + 1 := ⟨fuel - 1, by omega⟩
    refine ⟨z, ?_, hz, hu⟩
    show f_X7_enough_L27F (iI m) v5 k (f_X7_enough_L27 (iI m) v5 k fuel) _ (iI 0) z = _
    unfold f_X7_enough_L27F
    rw [if_pos (by decide)]
  | succ t ih =>
    intro fuel z a h1 h2 hz hu
    obtain ⟨fuel, rfl⟩ : ∃ z, fuel = z + 1 := ⟨fuel - 1, by omega⟩
    obtain ⟨u, hu⟩ := hu
    have n2 := hmv.2.1
    have e99 : (99 : Int32).toNatClampNeg = 99 := by decide
    have hz5 : q_up z 5 (upd (z 5) 99 (iI ((t + 1 : Nat) : Int))) 5 = upd (y 5) 99 (iI ((t + 1 : Nat) : Int)) := by rw [q_up_s, hu, upd_upd]
    have hv1 : w_vm n (q_up z 5 (upd (z 5) 99 (iI ((t + 1 : Nat) : Int)))) := by
      refine ⟨by rw [q_up_n _ _ (by decide), hz 2 (by decide) (by decide) (by decide)]; exact hmv.1, n2, ?_⟩
      rw [hz5]
      refine w_V_upd n2 hmv.2.2 (fun h => absurd h (by omega)) (fun _ h => absurd h (by omega)) (fun _ _ => ?_) (fun h => absurd h (by omega))
      rw [iI_toInt (by omega) (by omega)]
      show w_lo 3 ≤ _ ∧ _ ≤ w_hi 3
      rw [show w_lo 3 = 1 from rfl, show w_hi 3 = 40 from rfl]
      omega
    obtain ⟨z1, e1, p1⟩ := alarmsm_s hv1
    rw [hz5, w_ca_c (be := w_by n (y 5) (iI ((t + 1 : Nat) : Int))) n (fun i hi => w_al_99 n2 (f := y 5) (iI ((t + 1 : Nat) : Int)) hi)] at e1
    have hle := w_ca_le (w_by n (y 5) (iI ((t + 1 : Nat) : Int))) n
    have hz1 : ∀ c, c ≠ 5 → c ≠ 13 → c ≠ 14 → z1 c = y c := fun c a b d => by rw [p1 c b d, q_up_n _ _ a]; exact hz c a b d
    have hu1 : ∃ u, z1 5 = upd (y 5) 99 u := ⟨_, (p1 5 (by decide) (by decide)).trans hz5⟩
    obtain ⟨z2, e2, q1, q2⟩ := ih fuel z1 a (by omega) (by omega) hz1 hu1
    refine ⟨z2, ?_, q1, q2⟩
    show f_X7_enough_L27F (iI m) v5 k (f_X7_enough_L27 (iI m) v5 k fuel) _ (iI ((t + 1 : Nat) : Int)) z = _
    unfold f_X7_enough_L27F
    rw [if_neg (by rw [show (0 : Int32) = iI 0 from rfl, iI_le (by omega) (by omega) (by omega) (by omega)]; omega), q_let_r, e99, q_b2_s e1]
    simp only [q_jn_r, q_let_r]
    rw [show iI ((t + 1 : Nat) : Int) + -1 = iI (t : Int) from by rw [show (-1 : Int32) = iI (-1) from rfl, iI_add]; congr 1; omega]
    have hen : w_en (w_eP n (y 5) m) (40 - t) (t + 1) = (if w_eP n (y 5) m (t + 1) = true then iI ((t + 1 : Nat) : Int) else w_en (w_eP n (y 5) m) (40 - (t + 1)) (t + 1 + 1)) := by
      rw [show 40 - t = (40 - (t + 1)) + 1 by omega]; rfl
    rw [hen] at e2
    by_cases hP : (w_ca (w_by n (y 5) (iI ((t + 1 : Nat) : Int))) n : Int) ≤ m
    · rw [if_neg (by rw [iI_lt (by omega) (by omega) (by omega) (by omega)]; omega)]
      rw [if_pos (show w_eP n (y 5) m (t + 1) = true from decide_eq_true hP)] at e2
      exact e2
    · rw [if_pos (by rw [iI_lt (by omega) (by omega) (by omega) (by omega)]; omega)]
      rw [if_neg (show ¬ w_eP n (y 5) m (t + 1) = true from fun h => hP (of_decide_eq_true h))] at e2
      exact e2
theorem qt_enough : qs_enough q_I := by
  intro x j y hI a1
  obtain ⟨ht, n, hr, hp, hd, hc⟩ := id hI
  obtain ⟨n1, n2, x13, y2, hV, hw⟩ := id hr
  obtain ⟨hv, hm⟩ := vw_of hr
  obtain ⟨m, hm1, hm2, rfl⟩ := iI_of a1
  by_cases hc2 : m < 0 ∨ 48 < m
  · refine ⟨iI (-1), x, y, ?_, by simp (disch := omega) only [f_X7_enough, isIn_f, iI_lit, iI_neg, iI_lt, iI_le, iI_eq, iI_add, iI_sub, iI_mul, iI_cl, q_let_r, q_jn_r, q_b1_r, q_b2_r, q_b3_r, if_true, if_false, eq_self, q_gd_in, q_up_s, q_up_n, upd_s, upd_n, if_pos, if_neg], hI⟩
    by_cases h0 : m < 0
    · simp (disch := omega) only [f_X6_enough, iI_lit, iI_neg, iI_lt, iI_le, iI_eq, iI_add, iI_sub, iI_mul, iI_cl, q_let_r, q_jn_r, q_b1_r, q_b2_r, q_b3_r, if_true, if_false, eq_self, q_gd_in, q_up_s, q_up_n, upd_s, upd_n, if_pos, if_neg]
    · simp (disch := omega) only [f_X6_enough, iI_lit, iI_neg, iI_lt, iI_le, iI_eq, iI_add, iI_sub, iI_mul, iI_cl, q_let_r, q_jn_r, q_b1_r, q_b2_r, q_b3_r, if_true, if_false, eq_self, q_gd_in, q_up_s, q_up_n, upd_s, upd_n, if_pos, if_neg]
  obtain ⟨x1, e1, p1, hI1, hr1, hc1', hC⟩ := settleI (j := j) ht hr hp hd hc
  have hv1 := (vw_of hr1).1
  have eX := enoughL (m := m) hv1 hC.1 (by omega) (by omega) 40 1000 1 (by omega) (by omega)
  obtain ⟨z, eY, q1, u, q2⟩ := enoughM (m := m) hm (by omega) (by omega) (y 5 99) (fun e8 x10 => q_let (q_up x10 5 (upd (x10 5) (99 : Int32).toNatClampNeg (y 5 99))) fun x20 => some (e8, x20)) 40 1000 y 0 (by omega) (by omega) (fun _ _ _ _ => rfl) ⟨y 5 99, (upd_self (y 5) 99).symm⟩
  have e99 : (99 : Int32).toNatClampNeg = 99 := by decide
  have hz5 : q_up z 5 (upd (z 5) 99 (y 5 99)) 5 = y 5 := by rw [q_up_s, q2, upd_upd, upd_self]
  refine ⟨w_en (w_eP n (y 5) m) 40 1, x1, q_up z 5 (upd (z 5) 99 (y 5 99)), ?_, ?_, q_I_scr hI1 (x_id x1) (fun c hc => ?_)⟩
  · unfold f_X6_enough
    rw [if_neg (by rw [show (0 : Int32) = iI 0 from rfl, iI_lt (by omega) (by omega) (by omega) (by omega)]; omega), if_pos (by rw [show (48 : Int32) = iI 48 from rfl, iI_le (by omega) (by omega) (by omega) (by omega)]; omega), q_b1_s e1]
    exact eX
  · unfold f_X7_enough
    rw [show (0 : Int32) = iI 0 from rfl, show (48 : Int32) = iI 48 from rfl, isIn_t (by omega) (by omega) (by omega) (by omega), q_b1_r, if_neg (by decide), q_let_r, e99]
    rw [e99] at eY
    exact eY
  · by_cases h5 : c = 5
    · rw [h5]; exact hz5
    · rw [q_up_n _ _ h5]; exact q1 c h5 (by omega) (by omega)
end
