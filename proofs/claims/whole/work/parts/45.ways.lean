section
/-! words of n letters of which s (A) are low and the others (M) aren't -/
def w_D (A M : Nat) : Nat → Nat → Nat
  | 0, 0 => 1
  | 0, _ + 1 => 0
  | n + 1, 0 => w_D A M n 0 * M
  | n + 1, k + 1 => w_D A M n (k + 1) * M + w_D A M n k * A
def w_R (A M : Nat) : Nat → Nat → Nat
  | 0, 0 => 1
  | 0, _ + 1 => 0
  | n + 1, 0 => w_R A M n 0 * (M + A)
  | n + 1, k + 1 => w_R A M n (k + 1) * M + w_R A M n k * A
def w_ts (g : Nat → Nat) : Nat → Nat → Nat
  | 0, _ => 0
  | t + 1, k => g k + w_ts g t (k + 1)
theorem w_ts_c {f g : Nat → Nat} : ∀ (t k : Nat), (∀ i, k ≤ i → i < k + t → f i = g i) → w_ts f t k = w_ts g t k
  | 0, _, _ => rfl
  | t + 1, k, h => by
    show f k + w_ts f t (k + 1) = g k + w_ts g t (k + 1)
    rw [h k (by omega) (by omega), w_ts_c t (k + 1) (fun i a b => h i (by omega) (by omega))]
theorem w_ts_le {f g : Nat → Nat} : ∀ (t k : Nat), (∀ i, k ≤ i → i < k + t → f i ≤ g i) → w_ts f t k ≤ w_ts g t k
  | 0, _, _ => Nat.le_refl _
  | t + 1, k, h => by
    have := h k (by omega) (by omega)
    have := w_ts_le t (k + 1) (fun i a b => h i (by omega) (by omega))
    show f k + w_ts f t (k + 1) ≤ g k + w_ts g t (k + 1)
    omega
theorem w_ts_0 {g : Nat → Nat} : ∀ (t k : Nat), (∀ i, k ≤ i → i < k + t → g i = 0) → w_ts g t k = 0
  | 0, _, _ => rfl
  | t + 1, k, h => by
    show g k + w_ts g t (k + 1) = 0
    rw [h k (by omega) (by omega), w_ts_0 t (k + 1) (fun i a b => h i (by omega) (by omega))]
theorem w_ts_mul (g : Nat → Nat) (c : Nat) : ∀ (t k : Nat), w_ts (fun i => g i * c) t k = w_ts g t k * c
  | 0, _ => (Nat.zero_mul c).symm
  | t + 1, k => by
    show g k * c + w_ts (fun i => g i * c) t (k + 1) = (g k + w_ts g t (k + 1)) * c
    rw [w_ts_mul g c t (k + 1), Nat.add_mul]
theorem w_ts_add (f g : Nat → Nat) : ∀ (t k : Nat), w_ts (fun i => f i + g i) t k = w_ts f t k + w_ts g t k
  | 0, _ => rfl
  | t + 1, k => by
    show f k + g k + w_ts (fun i => f i + g i) t (k + 1) = (f k + w_ts f t (k + 1)) + (g k + w_ts g t (k + 1))
    rw [w_ts_add f g t (k + 1)]
    omega
theorem w_ts_sw (h : Nat → Nat → Nat) (u : Nat) : ∀ (t k : Nat), w_ts (fun i => w_ts (fun j => h i j) u 0) t k = w_ts (fun j => w_ts (fun i => h i j) t k) u 0 := by
  intro t
  induction t with
  | zero => intro k; exact (w_ts_0 u 0 (fun _ _ _ => rfl)).symm
  | succ t ih =>
    intro k
    show w_ts (fun j => h k j) u 0 + w_ts (fun i => w_ts (fun j => h i j) u 0) t (k + 1) = w_ts (fun j => h k j + w_ts (fun i => h i j) t (k + 1)) u 0
    rw [ih (k + 1), w_ts_add]
theorem w_ts_sh (g : Nat → Nat) : ∀ (t k : Nat), w_ts g t (k + 1) = w_ts (fun i => g (i + 1)) t k
  | 0, _ => rfl
  | t + 1, k => by
    show g (k + 1) + w_ts g t (k + 1 + 1) = g (k + 1) + w_ts (fun i => g (i + 1)) t (k + 1)
    rw [w_ts_sh g t (k + 1)]
theorem w_D_R (A M : Nat) : ∀ (n K t : Nat), n + 1 ≤ K + t → w_ts (w_D A M n) t K = w_R A M n K := by
  intro n
  induction n with
  | zero =>
    intro K t h
    cases K with
    | zero =>
      obtain ⟨t, rfl⟩ : ∃ z, t = z + 1 := ⟨t - 1, by omega⟩
      show 1 + w_ts (w_D A M 0) t 1 = 1
      rw [w_ts_0 t 1 (fun i a b => by obtain ⟨i, rfl⟩ : ∃ z, i = z + 1 := ⟨i - 1, by omega⟩; rfl)]
    | succ K => exact w_ts_0 t (K + 1) (fun i a b => by obtain ⟨i, rfl⟩ : ∃ z, i = z + 1 := ⟨i - 1, by omega⟩; rfl)
  | succ n ih =>
    have lin : ∀ t K, w_ts (w_D A M (n + 1)) t (K + 1) = w_ts (w_D A M n) t (K + 1) * M + w_ts (w_D A M n) t K * A := by
      intro t K
      rw [w_ts_sh, w_ts_sh (w_D A M n) t K, ← w_ts_mul, ← w_ts_mul, ← w_ts_add]
      rfl
    intro K t h
    cases K with
    | zero =>
      obtain ⟨t, rfl⟩ : ∃ z, t = z + 1 := ⟨t - 1, by omega⟩
      show w_D A M n 0 * M + w_ts (w_D A M (n + 1)) t 1 = w_R A M n 0 * (M + A)
      have h1 := ih 0 (t + 1) (by omega)
      have h2 := ih 0 t (by omega)
      have h3 : w_ts (w_D A M n) (t + 1) 0 = w_D A M n 0 + w_ts (w_D A M n) t 1 := rfl
      rw [lin t 0, h2, ← Nat.add_assoc, ← Nat.add_mul, ← h3, h1, ← Nat.mul_add]
    | succ K =>
      rw [lin t K, ih (K + 1) t (by omega), ih K t (by omega)]
      rfl
theorem w_R_anti (A M : Nat) : ∀ n K, w_R A M n (K + 1) ≤ w_R A M n K := by
  intro n
  induction n with
  | zero => intro K; exact Nat.zero_le _
  | succ n ih =>
    intro K
    cases K with
    | zero =>
      show w_R A M n 1 * M + w_R A M n 0 * A ≤ w_R A M n 0 * (M + A)
      rw [Nat.mul_add]
      exact Nat.add_le_add_right (Nat.mul_le_mul_right M (ih 0)) _
    | succ K => exact Nat.add_le_add (Nat.mul_le_mul_right M (ih (K + 1))) (Nat.mul_le_mul_right A (ih K))
theorem w_R_pow (A M : Nat) : ∀ n, w_R A M n 0 = (M + A) ^ n
  | 0 => rfl
  | n + 1 => by
    show w_R A M n 0 * (M + A) = _
    rw [w_R_pow A M n, Nat.pow_succ]
theorem w_R_le (A M n : Nat) : ∀ K, w_R A M n K ≤ (M + A) ^ n
  | 0 => Nat.le_of_eq (w_R_pow A M n)
  | K + 1 => Nat.le_trans (w_R_anti A M n K) (w_R_le A M n K)
theorem w_R_all (A : Nat) : ∀ n K, K ≤ n → w_R A 0 n K = A ^ n := by
  intro n
  induction n with
  | zero =>
    intro K h
    obtain rfl : K = 0 := by omega
    rfl
  | succ n ih =>
    intro K h
    cases K with
    | zero => rw [w_R_pow, Nat.zero_add]
    | succ K =>
      show w_R A 0 n (K + 1) * 0 + w_R A 0 n K * A = _
      rw [Nat.mul_zero, Nat.zero_add, ih K (by omega), Nat.pow_succ]
theorem w_R_mono1 (A M : Nat) : ∀ n K, w_R A (M + 1) n K ≤ w_R (A + 1) M n K := by
  intro n
  induction n with
  | zero => intro K; cases K <;> exact Nat.le_refl _
  | succ n ih =>
    intro K
    cases K with
    | zero =>
      show w_R A (M + 1) n 0 * (M + 1 + A) ≤ w_R (A + 1) M n 0 * (M + (A + 1))
      rw [show M + 1 + A = M + (A + 1) by omega]
      exact Nat.mul_le_mul_right _ (ih 0)
    | succ K =>
      show w_R A (M + 1) n (K + 1) * (M + 1) + w_R A (M + 1) n K * A ≤ w_R (A + 1) M n (K + 1) * M + w_R (A + 1) M n K * (A + 1)
      have h1 := Nat.mul_le_mul_right (M + 1) (ih (K + 1))
      have h2 := Nat.mul_le_mul_right A (ih K)
      have h3 := w_R_anti (A + 1) M n K
      have e1 : w_R (A + 1) M n (K + 1) * (M + 1) = w_R (A + 1) M n (K + 1) * M + w_R (A + 1) M n (K + 1) := Nat.mul_succ _ _
      have e2 : w_R (A + 1) M n K * (A + 1) = w_R (A + 1) M n K * A + w_R (A + 1) M n K := Nat.mul_succ _ _
      omega
theorem w_R_mono {T n K : Nat} : ∀ d s, s + d ≤ T → w_R s (T - s) n K ≤ w_R (s + d) (T - (s + d)) n K := by
  intro d
  induction d with
  | zero => intro s h; exact Nat.le_refl _
  | succ d ih =>
    intro s h
    have h1 := w_R_mono1 s (T - (s + 1)) n K
    rw [show T - (s + 1) + 1 = T - s by omega] at h1
    have h2 := ih (s + 1) (by omega)
    rw [show s + 1 + d = s + (d + 1) by omega] at h2
    exact Nat.le_trans h1 h2
/-- in how many ways the floor is among the s lowest of T -/
def w_F (T r K : Nat) (mode : Int32) (s : Nat) : Nat :=
  if mode = 0 then w_R s (T - s) (2 * r) (min K (2 * r))
  else if mode = 1 then w_R s (T - s) r (min K r) * w_R s (T - s) r (min K r)
  else T ^ r * T ^ r - (T ^ r - w_R s (T - s) r (min K r)) * (T ^ r - w_R s (T - s) r (min K r))
theorem w_R_T {T s n K : Nat} (h : s ≤ T) : w_R s (T - s) n K ≤ T ^ n := by
  have := w_R_le s (T - s) n K
  rw [show T - s + s = T by omega] at this
  exact this
theorem sq_sub_le {a b c : Nat} (h1 : b ≤ c) : a * a - (a - b) * (a - b) ≤ a * a - (a - c) * (a - c) := by
  have h2 : (a - c) * (a - c) ≤ (a - b) * (a - b) := Nat.mul_le_mul (by omega) (by omega)
  omega
theorem w_F_mono {T r K : Nat} {mode : Int32} {s s' : Nat} (h : s ≤ s') (h' : s' ≤ T) : w_F T r K mode s ≤ w_F T r K mode s' := by
  have key : ∀ n K, w_R s (T - s) n K ≤ w_R s' (T - s') n K := fun n K => by
    have := w_R_mono (T := T) (n := n) (K := K) (s' - s) s (by omega)
    rw [show s + (s' - s) = s' by omega] at this
    exact this
  unfold w_F
  split
  · exact key _ _
  · split
    · exact Nat.mul_le_mul (key _ _) (key _ _)
    · exact sq_sub_le (key _ _)
theorem pow_2r (T r : Nat) : T ^ r * T ^ r = T ^ (2 * r) := by rw [← Nat.pow_add]; congr 1; omega
theorem w_F_T (T r K : Nat) (mode : Int32) : w_F T r K mode T = T ^ (2 * r) := by
  unfold w_F
  rw [Nat.sub_self, w_R_all T _ _ (Nat.min_le_right _ _), w_R_all T _ _ (Nat.min_le_right _ _), Nat.sub_self, Nat.zero_mul, Nat.sub_zero, pow_2r]
  split
  · rfl
  · split <;> rfl
theorem w_F_le {T r K : Nat} {mode : Int32} {s : Nat} (h : s ≤ T) : w_F T r K mode s ≤ T ^ (2 * r) := by
  have := w_F_mono (r := r) (K := K) (mode := mode) h (Nat.le_refl T)
  rw [w_F_T] at this
  exact this
/-! the binomials of the reference -/
def w_c : Nat → Nat → Nat
  | _, 0 => 1
  | 0, _ + 1 => 0
  | n + 1, k + 1 => w_c n (k + 1) + w_c n k
theorem w_c_0 : ∀ n k, n < k → w_c n k = 0
  | 0, k + 1, _ => rfl
  | n + 1, k + 1, h => by
    show w_c n (k + 1) + w_c n k = 0
    rw [w_c_0 n (k + 1) (by omega), w_c_0 n k (by omega)]
theorem w_D_c (A M : Nat) : ∀ n k, k ≤ n → w_D A M n k = w_c n k * A ^ k * M ^ (n - k) := by
  intro n
  induction n with
  | zero =>
    intro k h
    obtain rfl : k = 0 := by omega
    rfl
  | succ n ih =>
    have hz : ∀ n k, n < k → w_D A M n k = 0 := by
      intro n
      induction n with
      | zero => intro k h; obtain ⟨k, rfl⟩ : ∃ z, k = z + 1 := ⟨k - 1, by omega⟩; rfl
      | succ n ih =>
        intro k h
        obtain ⟨k, rfl⟩ : ∃ z, k = z + 1 := ⟨k - 1, by omega⟩
        show w_D A M n (k + 1) * M + w_D A M n k * A = 0
        rw [ih (k + 1) (by omega), ih k (by omega)]
        omega
    intro k h
    cases k with
    | zero =>
      show w_D A M n 0 * M = _
      rw [ih 0 (by omega), show n + 1 - 0 = n - 0 + 1 by omega, Nat.pow_succ, ← Nat.mul_assoc]
      cases n <;> rfl
    | succ k =>
      show w_D A M n (k + 1) * M + w_D A M n k * A = (w_c n (k + 1) + w_c n k) * A ^ (k + 1) * M ^ (n + 1 - (k + 1))
      rw [ih k (by omega), show n + 1 - (k + 1) = n - k by omega]
      by_cases hk : k + 1 ≤ n
      · rw [ih (k + 1) hk, show n - k = n - (k + 1) + 1 by omega, Nat.pow_succ M, Nat.pow_succ A, Nat.add_mul, Nat.add_mul]
        congr 1
        · rw [Nat.mul_assoc]
        · rw [Nat.mul_assoc, Nat.mul_assoc, Nat.mul_assoc, Nat.mul_assoc]
          congr 1
          ac_rfl
      · rw [hz n (k + 1) (by omega), w_c_0 n (k + 1) (by omega), show n - k = 0 by omega, Nat.pow_succ A, Nat.zero_mul, Nat.zero_add, Nat.zero_add, Nat.pow_zero, Nat.mul_one, Nat.mul_one, Nat.mul_assoc]
theorem choose_s : ∀ n, n < 13 → ∀ k, k < 13 → k ≤ n → f_X7_choose (iI (n : Nat)) (iI (k : Nat)) = some (lN (w_c n k)) := by decide +kernel
end
