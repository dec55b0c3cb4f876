section
set_option maxRecDepth 100000 in
theorem q_N0 {args : Array Value} {s : State} (hts : ∀ w ∈ lw_tbl, w.before args s = true) : q_N s := ⟨va_Nw.of rfl (hts _ (List.mem_of_getElem? (i := 457) (by decide +kernel))), va_Nw.of rfl (hts _ (List.mem_of_getElem? (i := 393) (by decide +kernel))), va_Nw.of rfl (hts _ (List.mem_of_getElem? (i := 129) (by decide +kernel))), va_Nw.of rfl (hts _ (List.mem_of_getElem? (i := 98) (by decide +kernel))), va_Nw.of rfl (hts _ (List.mem_of_getElem? (i := 250) (by decide +kernel))), va_Nw.of rfl (hts _ (List.mem_of_getElem? (i := 76) (by decide +kernel))), va_Nw.of rfl (hts _ (List.mem_of_getElem? (i := 94) (by decide +kernel))), va_Nw.of rfl (hts _ (List.mem_of_getElem? (i := 125) (by decide +kernel))), va_Nw.of rfl (hts _ (List.mem_of_getElem? (i := 167) (by decide +kernel))), va_Nw.of rfl (hts _ (List.mem_of_getElem? (i := 201) (by decide +kernel))), va_Nw.of rfl (hts _ (List.mem_of_getElem? (i := 222) (by decide +kernel)))⟩
set_option maxRecDepth 100000 in
theorem q_T0 {args : Array Value} {s : State} (A : Nat → Prop) (hA : ∀ a : Nat, a < s.heap.size → ¬ A a) (n : String) (N : Nat) (f : Nat → Int32) (hN : N < 2 ^ 31) (hlay : (Cond.laysStatic "RankedEchoes" n "[I").before args s = true) (hini : (Cond.initialized "RankedEchoes").before args s = true) (harr : (Cond.arrayOf (.static "RankedEchoes" n "[I") .int).before args s = true) (hlen : (Cond.eq (.length (.static "RankedEchoes" n "[I")) (.int (Int32.ofNat N))).before args s = true) (hel : ∀ j : Nat, j < N → (Cond.eq (.elem (.static "RankedEchoes" n "[I") (.int (Int32.ofNat j))) (.int (f j))).before args s = true) : ∃ t : Nat, q_Z1 n t N f A s s.heap := by
  obtain ⟨t, h1, h2⟩ := va_Tof (f := fun j => .int (f j)) hN harr (va_eqt hlen) (fun j hj => va_eqt (hel j hj)) hA
  exact ⟨t, va_Zof hlay hini h1 hA, h2⟩
def q_si (i : Nat) : Nat := [35, 44, 54, 59, 64, 69, 71].getD i 0
theorem q_lt7 {P : Nat → Prop} (h0 : P 0) (h1 : P 1) (h2 : P 2) (h3 : P 3) (h4 : P 4) (h5 : P 5) (h6 : P 6) : ∀ i, i < 7 → P i := by
  intro i hi
  match i, hi with
  | 0, _ => exact h0
  | 1, _ => exact h1
  | 2, _ => exact h2
  | 3, _ => exact h3
  | 4, _ => exact h4
  | 5, _ => exact h5
  | 6, _ => exact h6
  | n + 7, h => exact absurd h (by omega)
set_option maxHeartbeats 4000000 in
set_option maxRecDepth 100000 in
theorem q_E0 {b : Nat} {s : State} (hts : ∀ w ∈ lw_tbl, w.before #[Value.ref b] s = true) (hgv : (Jvm.Cond.and given_1 narrow_1).before #[Value.ref b] s = true) : ∃ g : Nat → Nat, q_E g (fun q : Nat => s.heap.size ≤ q) s s.heap := by
  have hs := flat_of_before _ hgv
  have hA : ∀ a : Nat, a < s.heap.size → ¬ (fun q : Nat => s.heap.size ≤ q) a := fun a h => Nat.not_le.mpr h
  obtain ⟨t0, z0⟩ := q_T0 (fun q : Nat => s.heap.size ≤ q) hA "LOOK_WITHOUT" 5 q_LW (by decide) (hts _ (List.mem_of_getElem? (i := 99) (by decide +kernel))) (hts _ (List.mem_of_getElem? (i := 51) (by decide +kernel))) (hs _ (by decide +kernel)) (hs _ (by decide +kernel)) (by
      intro j hj
      match j, hj with
      | 0, _ => exact hs _ (by decide +kernel)
      | 1, _ => exact hs _ (by decide +kernel)
      | 2, _ => exact hs _ (by decide +kernel)
      | 3, _ => exact hs _ (by decide +kernel)
      | 4, _ => exact hs _ (by decide +kernel)
      | n + 5, h => exact absurd h (by omega))
  obtain ⟨t1, z1⟩ := q_T0 (fun q : Nat => s.heap.size ≤ q) hA "DICE_WITHOUT" 8 q_DW (by decide) (hts _ (List.mem_of_getElem? (i := 251) (by decide +kernel))) (hts _ (List.mem_of_getElem? (i := 51) (by decide +kernel))) (hs _ (by decide +kernel)) (hs _ (by decide +kernel)) (by
      intro j hj
      match j, hj with
      | 0, _ => exact hs _ (by decide +kernel)
      | 1, _ => exact hs _ (by decide +kernel)
      | 2, _ => exact hs _ (by decide +kernel)
      | 3, _ => exact hs _ (by decide +kernel)
      | 4, _ => exact hs _ (by decide +kernel)
      | 5, _ => exact hs _ (by decide +kernel)
      | 6, _ => exact hs _ (by decide +kernel)
      | 7, _ => exact hs _ (by decide +kernel)
      | n + 8, h => exact absurd h (by omega))
  obtain ⟨t2, z2⟩ := q_T0 (fun q : Nat => s.heap.size ≤ q) hA "FIRST_CELLS" 20 q_FC (by decide) (hts _ (List.mem_of_getElem? (i := 253) (by decide +kernel))) (hts _ (List.mem_of_getElem? (i := 51) (by decide +kernel))) (hs _ (by decide +kernel)) (hs _ (by decide +kernel)) (by
      intro j hj
      match j, hj with
      | 0, _ => exact hs _ (by decide +kernel)
      | 1, _ => exact hs _ (by decide +kernel)
      | 2, _ => exact hs _ (by decide +kernel)
      | 3, _ => exact hs _ (by decide +kernel)
      | 4, _ => exact hs _ (by decide +kernel)
      | 5, _ => exact hs _ (by decide +kernel)
      | 6, _ => exact hs _ (by decide +kernel)
      | 7, _ => exact hs _ (by decide +kernel)
      | 8, _ => exact hs _ (by decide +kernel)
      | 9, _ => exact hs _ (by decide +kernel)
      | 10, _ => exact hs _ (by decide +kernel)
      | 11, _ => exact hs _ (by decide +kernel)
      | 12, _ => exact hs _ (by decide +kernel)
      | 13, _ => exact hs _ (by decide +kernel)
      | 14, _ => exact hs _ (by decide +kernel)
      | 15, _ => exact hs _ (by decide +kernel)
      | 16, _ => exact hs _ (by decide +kernel)
      | 17, _ => exact hs _ (by decide +kernel)
      | 18, _ => exact hs _ (by decide +kernel)
      | 19, _ => exact hs _ (by decide +kernel)
      | n + 20, h => exact absurd h (by omega))
  obtain ⟨t3, z3⟩ := q_T0 (fun q : Nat => s.heap.size ≤ q) hA "LOOK_LEAST" 5 q_LL (by decide) (hts _ (List.mem_of_getElem? (i := 397) (by decide +kernel))) (hts _ (List.mem_of_getElem? (i := 51) (by decide +kernel))) (hs _ (by decide +kernel)) (hs _ (by decide +kernel)) (by
      intro j hj
      match j, hj with
      | 0, _ => exact hs _ (by decide +kernel)
      | 1, _ => exact hs _ (by decide +kernel)
      | 2, _ => exact hs _ (by decide +kernel)
      | 3, _ => exact hs _ (by decide +kernel)
      | 4, _ => exact hs _ (by decide +kernel)
      | n + 5, h => exact absurd h (by omega))
  obtain ⟨t4, z4⟩ := q_T0 (fun q : Nat => s.heap.size ≤ q) hA "LOOK_MOST" 5 q_LM (by decide) (hts _ (List.mem_of_getElem? (i := 399) (by decide +kernel))) (hts _ (List.mem_of_getElem? (i := 51) (by decide +kernel))) (hs _ (by decide +kernel)) (hs _ (by decide +kernel)) (by
      intro j hj
      match j, hj with
      | 0, _ => exact hs _ (by decide +kernel)
      | 1, _ => exact hs _ (by decide +kernel)
      | 2, _ => exact hs _ (by decide +kernel)
      | 3, _ => exact hs _ (by decide +kernel)
      | 4, _ => exact hs _ (by decide +kernel)
      | n + 5, h => exact absurd h (by omega))
  have zc : va_Z "java/lang/String" "COMPACT_STRINGS" "Z" (.int 1) (fun q : Nat => s.heap.size ≤ q) s s.heap := va_Zof (hts _ (List.mem_of_getElem? (i := 336) (by decide +kernel))) (hts _ (List.mem_of_getElem? (i := 61) (by decide +kernel))) (va_eqi (hs _ (by decide +kernel))) hA
  have zf : va_Zq "jdk/internal/util/Preconditions" "SIOOBE_FORMATTER" "Ljava/util/function/BiFunction;" (fun q : Nat => s.heap.size ≤ q) s s.heap := va_Zqof (hts _ (List.mem_of_getElem? (i := 352) (by decide +kernel))) (hts _ (List.mem_of_getElem? (i := 63) (by decide +kernel))) (hs _ (by decide +kernel)) hA
  have hne : ∀ i : Nat, i < 7 → ∀ j : Nat, j < 7 → i ≠ j → (Cond.not (Cond.eq (.string RX4 (q_si i)) (.string RX4 (q_si j)))).before #[Value.ref b] s = true ∨ (Cond.not (Cond.eq (.string RX4 (q_si j)) (.string RX4 (q_si i)))).before #[Value.ref b] s = true := q_lt7 (q_lt7 (fun h => absurd rfl h) (fun _ => Or.inl (hs _ (by decide +kernel))) (fun _ => Or.inl (hs _ (by decide +kernel))) (fun _ => Or.inl (hs _ (by decide +kernel))) (fun _ => Or.inl (hs _ (by decide +kernel))) (fun _ => Or.inl (hs _ (by decide +kernel))) (fun _ => Or.inl (hs _ (by decide +kernel)))) (q_lt7 (fun _ => Or.inr (hs _ (by decide +kernel))) (fun h => absurd rfl h) (fun _ => Or.inl (hs _ (by decide +kernel))) (fun _ => Or.inl (hs _ (by decide +kernel))) (fun _ => Or.inr (hs _ (by decide +kernel))) (fun _ => Or.inr (hs _ (by decide +kernel))) (fun _ => Or.inr (hs _ (by decide +kernel)))) (q_lt7 (fun _ => Or.inr (hs _ (by decide +kernel))) (fun _ => Or.inr (hs _ (by decide +kernel))) (fun h => absurd rfl h) (fun _ => Or.inl (hs _ (by decide +kernel))) (fun _ => Or.inr (hs _ (by decide +kernel))) (fun _ => Or.inr (hs _ (by decide +kernel))) (fun _ => Or.inr (hs _ (by decide +kernel)))) (q_lt7 (fun _ => Or.inr (hs _ (by decide +kernel))) (fun _ => Or.inr (hs _ (by decide +kernel))) (fun _ => Or.inr (hs _ (by decide +kernel))) (fun h => absurd rfl h) (fun _ => Or.inr (hs _ (by decide +kernel))) (fun _ => Or.inr (hs _ (by decide +kernel))) (fun _ => Or.inr (hs _ (by decide +kernel)))) (q_lt7 (fun _ => Or.inr (hs _ (by decide +kernel))) (fun _ => Or.inl (hs _ (by decide +kernel))) (fun _ => Or.inl (hs _ (by decide +kernel))) (fun _ => Or.inl (hs _ (by decide +kernel))) (fun h => absurd rfl h) (fun _ => Or.inl (hs _ (by decide +kernel))) (fun _ => Or.inl (hs _ (by decide +kernel)))) (q_lt7 (fun _ => Or.inr (hs _ (by decide +kernel))) (fun _ => Or.inl (hs _ (by decide +kernel))) (fun _ => Or.inl (hs _ (by decide +kernel))) (fun _ => Or.inl (hs _ (by decide +kernel))) (fun _ => Or.inr (hs _ (by decide +kernel))) (fun h => absurd rfl h) (fun _ => Or.inl (hs _ (by decide +kernel)))) (q_lt7 (fun _ => Or.inr (hs _ (by decide +kernel))) (fun _ => Or.inl (hs _ (by decide +kernel))) (fun _ => Or.inl (hs _ (by decide +kernel))) (fun _ => Or.inl (hs _ (by decide +kernel))) (fun _ => Or.inr (hs _ (by decide +kernel))) (fun _ => Or.inr (hs _ (by decide +kernel))) (fun h => absurd rfl h))
  obtain ⟨adK, adV, hS, hk⟩ := vk_Sof (N := 7) (tm := fun i => .string RX4 (q_si i)) (len := q_len) (byt := q_byt) (A := fun q : Nat => s.heap.size ≤ q) (fun i hi => Nat.lt_of_le_of_lt (q_len_5 i hi) (by decide)) (q_lt7 (hs _ (by decide +kernel)) (hs _ (by decide +kernel)) (hs _ (by decide +kernel)) (hs _ (by decide +kernel)) (hs _ (by decide +kernel)) (hs _ (by decide +kernel)) (hs _ (by decide +kernel))) (q_lt7 (hs _ (by decide +kernel)) (hs _ (by decide +kernel)) (hs _ (by decide +kernel)) (hs _ (by decide +kernel)) (hs _ (by decide +kernel)) (hs _ (by decide +kernel)) (hs _ (by decide +kernel)))
    (q_lt7 (hs _ (by decide +kernel)) (hs _ (by decide +kernel)) (hs _ (by decide +kernel)) (hs _ (by decide +kernel)) (hs _ (by decide +kernel)) (hs _ (by decide +kernel)) (hs _ (by decide +kernel))) (q_lt7 (hs _ (by decide +kernel)) (hs _ (by decide +kernel)) (hs _ (by decide +kernel)) (hs _ (by decide +kernel)) (hs _ (by decide +kernel)) (hs _ (by decide +kernel)) (hs _ (by decide +kernel)))
    (q_lt7 (by
      intro j hj
      match j, hj with
      | 0, _ => exact hs _ (by decide +kernel)
      | 1, _ => exact hs _ (by decide +kernel)
      | 2, _ => exact hs _ (by decide +kernel)
      | 3, _ => exact hs _ (by decide +kernel)
      | 4, _ => exact hs _ (by decide +kernel)
      | n + 5, h => exact absurd h (by simp [q_len])) (by
      intro j hj
      match j, hj with
      | 0, _ => exact hs _ (by decide +kernel)
      | 1, _ => exact hs _ (by decide +kernel)
      | 2, _ => exact hs _ (by decide +kernel)
      | 3, _ => exact hs _ (by decide +kernel)
      | 4, _ => exact hs _ (by decide +kernel)
      | n + 5, h => exact absurd h (by simp [q_len])) (by
      intro j hj
      match j, hj with
      | 0, _ => exact hs _ (by decide +kernel)
      | 1, _ => exact hs _ (by decide +kernel)
      | 2, _ => exact hs _ (by decide +kernel)
      | 3, _ => exact hs _ (by decide +kernel)
      | 4, _ => exact hs _ (by decide +kernel)
      | n + 5, h => exact absurd h (by simp [q_len])) (by
      intro j hj
      match j, hj with
      | 0, _ => exact hs _ (by decide +kernel)
      | 1, _ => exact hs _ (by decide +kernel)
      | 2, _ => exact hs _ (by decide +kernel)
      | 3, _ => exact hs _ (by decide +kernel)
      | 4, _ => exact hs _ (by decide +kernel)
      | n + 5, h => exact absurd h (by simp [q_len])) (by
      intro j hj
      match j, hj with
      | 0, _ => exact hs _ (by decide +kernel)
      | 1, _ => exact hs _ (by decide +kernel)
      | 2, _ => exact hs _ (by decide +kernel)
      | 3, _ => exact hs _ (by decide +kernel)
      | n + 4, h => exact absurd h (by simp [q_len])) (by
      intro j hj
      match j, hj with
      | 0, _ => exact hs _ (by decide +kernel)
      | 1, _ => exact hs _ (by decide +kernel)
      | 2, _ => exact hs _ (by decide +kernel)
      | 3, _ => exact hs _ (by decide +kernel)
      | n + 4, h => exact absurd h (by simp [q_len])) (by
      intro j hj
      match j, hj with
      | 0, _ => exact hs _ (by decide +kernel)
      | 1, _ => exact hs _ (by decide +kernel)
      | 2, _ => exact hs _ (by decide +kernel)
      | 3, _ => exact hs _ (by decide +kernel)
      | n + 4, h => exact absurd h (by simp [q_len]))) (fun i j hi hj h => hne i hi j hj h) hA
  refine ⟨fun k => if k < 10 then [t0, t1, t2, t3, t4].getD k 0 else if k < 20 then adK (k - 10) else adV (k - 20), q_N0 hts, ?_, z0, z1, z2, z3, z4, zc, zf, ?_⟩
  · exact ⟨vk_R.of (hts _ (List.mem_of_getElem? (i := 322) (by decide +kernel))) (hk 0 (by decide)), vk_R.of (hts _ (List.mem_of_getElem? (i := 382) (by decide +kernel))) (hk 1 (by decide)), vk_R.of (hts _ (List.mem_of_getElem? (i := 388) (by decide +kernel))) (hk 2 (by decide)), vk_R.of (hts _ (List.mem_of_getElem? (i := 400) (by decide +kernel))) (hk 3 (by decide)), vk_R.of (hts _ (List.mem_of_getElem? (i := 379) (by decide +kernel))) (hk 4 (by decide)), vk_R.of (hts _ (List.mem_of_getElem? (i := 380) (by decide +kernel))) (hk 5 (by decide)), vk_R.of (hts _ (List.mem_of_getElem? (i := 381) (by decide +kernel))) (hk 6 (by decide))⟩
  · have e1 : ∀ i, i < 7 → (if 10 + i < 10 then [t0, t1, t2, t3, t4].getD (10 + i) 0 else if 10 + i < 20 then adK (10 + i - 10) else adV (10 + i - 20)) = adK i := fun i hi => by rw [if_neg (by omega), if_pos (by omega), Nat.add_sub_cancel_left]
    have e2 : ∀ i, (if 20 + i < 10 then [t0, t1, t2, t3, t4].getD (20 + i) 0 else if 20 + i < 20 then adK (20 + i - 10) else adV (20 + i - 20)) = adV i := fun i => by rw [if_neg (by omega), if_neg (by omega), Nat.add_sub_cancel_left]
    refine ⟨fun i hi => ?_, fun i j hi hj h => ?_⟩
    · have h := hS.1 i hi
      simp only [e1 i hi, e2 i]
      exact h
    · simp only [e1 i hi, e1 j hj] at h
      exact hS.2 i j hi hj h
end
