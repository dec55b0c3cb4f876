section
theorem ky_X7_firstOf : q_Y yX7_firstOf cX7_firstOf 4 (some .int) 1 := ⟨cw_X7_firstOf, im_X7_firstOf, se_X7_firstOf, in_X7, by decide +kernel⟩
set_option maxHeartbeats 4000000 in
set_option maxRecDepth 100000 in
theorem c_X7_firstOf (l : Launch) (D : va_G) (cI cJ : ClassId) (g : Nat → Nat) (ad : Nat → Nat) (x : IS) (a1 : Int32) (res : Int32 × IS) (hF : f_X7_firstOf x a1 = some res) : q_Mi l yX7_firstOf cX7_firstOf 4 .int { frames := 5, cells := 0, slots := 0, locals := 116 } D cI cJ g (q_WM cI ad x) [.ref (ad 0), .int a1] (res.1) (q_WM cI ad (res.2)) := by
  refine q_ofi (res := res) (fun u : Int32 × IS => u.1) (fun u : Int32 × IS => (q_WM cI ad (u.2))) pl_X7 (Nat.le_of_ble_eq_true rfl) ?_
  intro p e s m args below meth c A Q hM hRet ls hl hP hD hS
  have hx := hM.1.1
  have hb := hM.1.2.1
  have hl : lv_has ls 4 [(0, .ref (ad 0)), (1, .int a1)] := hl
  unfold f_X7_firstOf at hF
  refine lv_iconst (v := -1) hx hb dX7_firstOf_0 (by decide) ?_
  refine lv_istore_n (lv' := [(2, .int (-1 : Int32)), (0, .ref (ad 0)), (1, .int a1)]) hx hb dX7_firstOf_1 rfl hl (by decide) rfl (fun ls hl => ?_)
  refine lv_iconst (v := -1) hx hb dX7_firstOf_2 (by decide) ?_
  refine lv_istore_n (lv' := [(3, .int (-1 : Int32)), (2, .int (-1 : Int32)), (0, .ref (ad 0)), (1, .int a1)]) hx hb dX7_firstOf_3 rfl hl (by decide) rfl (fun ls hl => ?_)
  have L4 : ∀ (k : Int32 → IS → Option (Int32 × IS)) (n : Nat) (v1 : Int32) (v2 : Int32) (x4 : IS) (H : Heap) (locs : List Loc) (ls : Array Slot), lv_has ls 4 [(0, .ref (ad 0)), (1, .int a1), (2, .int v1), (3, .int v2)] → va_P D vwCl (q_WM cI ad x4) H → va_D A (q_WM cI ad x4) → va_S A s.heap H locs → (∀ (e3 : Int32) (x5 : IS) (H : Heap) (locs : List Loc) (ls : Array Slot), lv_has ls 4 [(3, .int e3)] → va_P D vwCl (q_WM cI ad x5) H → va_D A (q_WM cI ad x5) → va_S A s.heap H locs → k e3 x5 = some res → W p l e { frames := 5, cells := 0, slots := 0, locals := 116 } s m args below meth c H locs 0 0 Q (F0 m 45 ls [])) → f_X7_firstOf_L4 a1 k n v1 v2 x4 = some res → W p l e { frames := 5, cells := 0, slots := 0, locals := 116 } s m args below meth c H locs 0 0 Q (F0 m 4 ls []) := by
    intro k n
    induction n with
    | zero => intro v1 v2 x4 H locs ls hl hP hD hS hk hF; exact q_no hF
    | succ n ih =>
      intro v1 v2 x4 H locs ls hl hP hD hS hk hF
      have hF : f_X7_firstOf_L4F a1 k (f_X7_firstOf_L4 a1 k n) v1 v2 x4 = some res := hF
      unfold f_X7_firstOf_L4F at hF
      refine lv_iload_n hx hb dX7_firstOf_4 rfl (lv_at hl 2 rfl) ?_
      refine lv_iload_n hx hb dX7_firstOf_5 rfl (lv_at hl 1 rfl) ?_
      refine lv_icmp_ge (tgt := 45) hx hb dX7_firstOf_6 (by decide) (fun c6 => ?_) (fun c6 => ?_)
      · have hF := q_it hF c6
        exact hk _ _ _ _ _ (lv_sub hl [3] rfl) hP hD hS hF
      · have hF := q_ie hF c6
        obtain ⟨v7, ev7⟩ : ∃ y : Int32, y = v2 + 1 := ⟨_, rfl⟩
        have hF := q_let_e hF ev7
        refine lv_iinc (v := v7) (lv' := [(3, .int v7), (0, .ref (ad 0)), (1, .int a1), (2, .int v1)]) hx hb dX7_firstOf_9 hl (k := 3) rfl (by rw [ev7]; rfl) (by decide) rfl (fun ls hl => ?_)
        refine lv_iload_n hx hb dX7_firstOf_12 rfl (lv_at hl 3 rfl) ?_
        refine lv_aload_n hx hb dX7_firstOf_13 rfl (lv_at hl 1 rfl) ?_
        refine lv_iload_n hx hb dX7_firstOf_14 rfl (lv_at hl 0 rfl) ?_
        obtain ⟨r8, x9, hC10, hF⟩ := q_b2_e hF
        refine q_calli hM (c_X7_isAlarm l D cI cJ g ad _ _ _ hC10) hP hD hS ky_X7_isAlarm ml_X7_133 rfl rfl ⟨Nat.le_of_ble_eq_true rfl, Nat.le_of_ble_eq_true rfl⟩ 0 rfl rfl rfl hl.1 rfl (Nat.le_of_ble_eq_true rfl) ⟨Nat.zero_le _, Nat.zero_le _⟩ dX7_firstOf_15 (fun H locs hz11 hP hD hS => ?_)
        obtain ⟨J40, hJ40, hF⟩ := q_jn_e hF
        have K40 : ∀ (t21 : Int32) (x22 : IS) (H : Heap) (locs : List Loc) (ls : Array Slot), lv_has ls 4 [(0, .ref (ad 0)), (1, .int a1), (3, .int v7)] → va_P D vwCl (q_WM cI ad x22) H → va_D A (q_WM cI ad x22) → va_S A s.heap H locs → J40 t21 x22 = some res → W p l e { frames := 5, cells := 0, slots := 0, locals := 116 } s m args below meth c H locs 0 0 Q (F0 m 40 ls [.int t21, .int v1]) := by
          clear hF; intro t21 x22 H locs ls hl hP hD hS hF
          rw [hJ40] at hF
          try dsimp only at hF
          refine lv_iadd hx hb dX7_firstOf_40 ?_
          refine lv_topi (fun v23 ev23 => ?_)
          have hF := q_let_e hF ev23
          refine lv_istore_n (lv' := [(2, .int v23), (0, .ref (ad 0)), (1, .int a1), (3, .int v7)]) hx hb dX7_firstOf_41 rfl hl (by decide) rfl (fun ls hl => ?_)
          refine lv_goto (tgt := 4) hx hb dX7_firstOf_42 (by decide) ?_
          exact ih _ _ _ _ _ _ (lv_sub hl [1, 2, 0, 3] rfl) hP hD hS hk hF
        obtain ⟨J39, hJ39, hF⟩ := q_jn_e hF
        have K39 : ∀ (x20 : IS) (H : Heap) (locs : List Loc) (ls : Array Slot), lv_has ls 4 [(0, .ref (ad 0)), (1, .int a1), (3, .int v7)] → va_P D vwCl (q_WM cI ad x20) H → va_D A (q_WM cI ad x20) → va_S A s.heap H locs → J39 x20 = some res → W p l e { frames := 5, cells := 0, slots := 0, locals := 116 } s m args below meth c H locs 0 0 Q (F0 m 39 ls [.int v1]) := by
          clear hF; intro x20 H locs ls hl hP hD hS hF
          rw [hJ39] at hF
          try dsimp only at hF
          refine lv_iconst (v := 0) hx hb dX7_firstOf_39 (by decide) ?_
          exact K40 _ _ _ _ _ (lv_sub hl [0, 1, 2] rfl) hP hD hS hF
        refine lv_if_eq (tgt := 39) hx hb dX7_firstOf_18 (by decide) (fun c12 => ?_) (fun c12 => ?_)
        · have hF := q_it hF c12
          exact K39 _ _ _ _ (lv_sub hl [1, 2, 0] rfl) hP hD hS hF
        · have hF := q_ie hF c12
          refine lv_iload_n hx hb dX7_firstOf_21 rfl (lv_at hl 0 rfl) ?_
          obtain ⟨J35, hJ35, hF⟩ := q_jn_e hF
          have K35 : ∀ (x19 : IS) (H : Heap) (locs : List Loc) (ls : Array Slot), lv_has ls 4 [(0, .ref (ad 0)), (1, .int a1), (3, .int v7)] → va_P D vwCl (q_WM cI ad x19) H → va_D A (q_WM cI ad x19) → va_S A s.heap H locs → J35 x19 = some res → W p l e { frames := 5, cells := 0, slots := 0, locals := 116 } s m args below meth c H locs 0 0 Q (F0 m 35 ls [.int v1]) := by
            clear hF; intro x19 H locs ls hl hP hD hS hF
            rw [hJ35] at hF
            try dsimp only at hF
            refine lv_iconst (v := 1) hx hb dX7_firstOf_35 (by decide) ?_
            refine lv_goto (tgt := 40) hx hb dX7_firstOf_36 (by decide) ?_
            exact K40 _ _ _ _ _ (lv_sub hl [0, 1, 2] rfl) hP hD hS hF
          refine lv_if_eq (tgt := 35) hx hb dX7_firstOf_22 (by decide) (fun c13 => ?_) (fun c13 => ?_)
          · have hF := q_it hF c13
            exact K35 _ _ _ _ (lv_sub hl [1, 2, 0] rfl) hP hD hS hF
          · have hF := q_ie hF c13
            refine lv_aload_n hx hb dX7_firstOf_25 rfl (lv_at hl 1 rfl) ?_
            refine lv_iload_n hx hb dX7_firstOf_26 rfl (lv_at hl 0 rfl) ?_
            refine lv_iconst (v := 1) hx hb dX7_firstOf_27 (by decide) ?_
            refine lv_isub hx hb dX7_firstOf_28 ?_
            obtain ⟨r14, x15, hC16, hF⟩ := q_b2_e hF
            refine q_calli hM (c_X7_isAlarm l D cI cJ g ad _ _ _ hC16) hP hD hS ky_X7_isAlarm ml_X7_133 rfl rfl ⟨Nat.le_of_ble_eq_true rfl, Nat.le_of_ble_eq_true rfl⟩ 0 rfl rfl rfl hl.1 rfl (Nat.le_of_ble_eq_true rfl) ⟨Nat.zero_le _, Nat.zero_le _⟩ dX7_firstOf_29 (fun H locs hz17 hP hD hS => ?_)
            refine lv_if_ne (tgt := 39) hx hb dX7_firstOf_32 (by decide) (fun c18 => ?_) (fun c18 => ?_)
            · have hF := q_ie hF c18
              exact K39 _ _ _ _ (lv_sub hl [1, 2, 0] rfl) hP hD hS hF
            · have hF := q_it hF c18
              exact K35 _ _ _ _ (lv_sub hl [1, 2, 0] rfl) hP hD hS hF
  refine L4 _ _ _ _ _ _ _ _ (lv_sub hl [2, 3, 1, 0] rfl) hP hD hS ?_ hF
  clear hF
  intro e3 x5 H locs ls hl hP hD hS hF
  refine lv_iload_n hx hb dX7_firstOf_45 rfl (lv_at hl 0 rfl) ?_
  exact hRet (e3, x5) _ _ _ _ hF rfl dX7_firstOf_46 hP hD hS
theorem ky_X7_lastFrom : q_Y yX7_lastFrom cX7_lastFrom 3 (some .int) 1 := ⟨cw_X7_lastFrom, im_X7_lastFrom, se_X7_lastFrom, in_X7, by decide +kernel⟩
set_option maxHeartbeats 4000000 in
set_option maxRecDepth 100000 in
theorem c_X7_lastFrom (l : Launch) (D : va_G) (cI cJ : ClassId) (g : Nat → Nat) (ad : Nat → Nat) (x : IS) (a1 : Int32) (res : Int32 × IS) (hF : f_X7_lastFrom x a1 = some res) : q_Mi l yX7_lastFrom cX7_lastFrom 3 .int { frames := 5, cells := 0, slots := 0, locals := 116 } D cI cJ g (q_WM cI ad x) [.ref (ad 0), .int a1] (res.1) (q_WM cI ad (res.2)) := by
  refine q_ofi (res := res) (fun u : Int32 × IS => u.1) (fun u : Int32 × IS => (q_WM cI ad (u.2))) pl_X7 (Nat.le_of_ble_eq_true rfl) ?_
  intro p e s m args below meth c A Q hM hRet ls hl hP hD hS
  have hx := hM.1.1
  have hb := hM.1.2.1
  have hl : lv_has ls 3 [(0, .ref (ad 0)), (1, .int a1)] := hl
  unfold f_X7_lastFrom at hF
  refine lv_iload_n hx hb dX7_lastFrom_0 rfl (lv_at hl 1 rfl) ?_
  refine lv_istore_n (lv' := [(2, .int a1), (0, .ref (ad 0)), (1, .int a1)]) hx hb dX7_lastFrom_1 rfl hl (by decide) rfl (fun ls hl => ?_)
  have L2 : ∀ (k : Int32 → IS → Option (Int32 × IS)) (n : Nat) (v1 : Int32) (x3 : IS) (H : Heap) (locs : List Loc) (ls : Array Slot), lv_has ls 3 [(0, .ref (ad 0)), (2, .int v1)] → va_P D vwCl (q_WM cI ad x3) H → va_D A (q_WM cI ad x3) → va_S A s.heap H locs → (∀ (e2 : Int32) (x4 : IS) (H : Heap) (locs : List Loc) (ls : Array Slot), lv_has ls 3 [(2, .int e2)] → va_P D vwCl (q_WM cI ad x4) H → va_D A (q_WM cI ad x4) → va_S A s.heap H locs → k e2 x4 = some res → W p l e { frames := 5, cells := 0, slots := 0, locals := 116 } s m args below meth c H locs 0 0 Q (F0 m 28 ls [])) → f_X7_lastFrom_L2 k n v1 x3 = some res → W p l e { frames := 5, cells := 0, slots := 0, locals := 116 } s m args below meth c H locs 0 0 Q (F0 m 2 ls []) := by
    intro k n
    induction n with
    | zero => intro v1 x3 H locs ls hl hP hD hS hk hF; exact q_no hF
    | succ n ih =>
      intro v1 x3 H locs ls hl hP hD hS hk hF
      have hF : f_X7_lastFrom_L2F k (f_X7_lastFrom_L2 k n) v1 x3 = some res := hF
      unfold f_X7_lastFrom_L2F at hF
      refine lv_iload_n hx hb dX7_lastFrom_2 rfl (lv_at hl 1 rfl) ?_
      refine lv_iconst (v := 1) hx hb dX7_lastFrom_3 (by decide) ?_
      refine lv_iadd hx hb dX7_lastFrom_4 ?_
      refine lv_aload_n hx hb dX7_lastFrom_5 rfl (lv_at hl 0 rfl) ?_
      refine qg_M_X7_cells hM hP fl_X7_48 dX7_lastFrom_6 ?_
      refine lv_icmp_ge (tgt := 28) hx hb dX7_lastFrom_9 (by decide) (fun c5 => ?_) (fun c5 => ?_)
      · have hF := q_it hF c5
        exact hk _ _ _ _ _ (lv_sub hl [1] rfl) hP hD hS hF
      · have hF := q_ie hF c5
        refine lv_aload_n hx hb dX7_lastFrom_12 rfl (lv_at hl 0 rfl) ?_
        refine lv_iload_n hx hb dX7_lastFrom_13 rfl (lv_at hl 1 rfl) ?_
        refine lv_iconst (v := 1) hx hb dX7_lastFrom_14 (by decide) ?_
        refine lv_iadd hx hb dX7_lastFrom_15 ?_
        obtain ⟨r6, x7, hC8, hF⟩ := q_b2_e hF
        refine q_calli hM (c_X7_isAlarm l D cI cJ g ad _ _ _ hC8) hP hD hS ky_X7_isAlarm ml_X7_133 rfl rfl ⟨Nat.le_of_ble_eq_true rfl, Nat.le_of_ble_eq_true rfl⟩ 0 rfl rfl rfl hl.1 rfl (Nat.le_of_ble_eq_true rfl) ⟨Nat.zero_le _, Nat.zero_le _⟩ dX7_lastFrom_16 (fun H locs hz9 hP hD hS => ?_)
        refine lv_if_eq (tgt := 28) hx hb dX7_lastFrom_19 (by decide) (fun c10 => ?_) (fun c10 => ?_)
        · have hF := q_it hF c10
          exact hk _ _ _ _ _ (lv_sub hl [1] rfl) hP hD hS hF
        · have hF := q_ie hF c10
          obtain ⟨v11, ev11⟩ : ∃ y : Int32, y = v1 + 1 := ⟨_, rfl⟩
          have hF := q_let_e hF ev11
          refine lv_iinc (v := v11) (lv' := [(2, .int v11), (0, .ref (ad 0))]) hx hb dX7_lastFrom_22 hl (k := 1) rfl (by rw [ev11]; rfl) (by decide) rfl (fun ls hl => ?_)
          refine lv_goto (tgt := 2) hx hb dX7_lastFrom_25 (by decide) ?_
          exact ih _ _ _ _ _ (lv_sub hl [1, 0] rfl) hP hD hS hk hF
  refine L2 _ _ _ _ _ _ _ (lv_sub hl [1, 0] rfl) hP hD hS ?_ hF
  clear hF
  intro e2 x4 H locs ls hl hP hD hS hF
  refine lv_iload_n hx hb dX7_lastFrom_28 rfl (lv_at hl 0 rfl) ?_
  exact hRet (e2, x4) _ _ _ _ hF rfl dX7_lastFrom_29 hP hD hS
theorem ky_X7_peak : q_Y yX7_peak cX7_peak 5 (some .int) 1 := ⟨cw_X7_peak, im_X7_peak, se_X7_peak, in_X7, by decide +kernel⟩
set_option maxHeartbeats 4000000 in
set_option maxRecDepth 100000 in
theorem c_X7_peak (l : Launch) (D : va_G) (cI cJ : ClassId) (g : Nat → Nat) (ad : Nat → Nat) (x : IS) (a1 : Int32) (res : Int32 × IS) (hF : f_X7_peak x a1 = some res) : q_Mi l yX7_peak cX7_peak 5 .int { frames := 6, cells := 0, slots := 0, locals := 138 } D cI cJ g (q_WM cI ad x) [.ref (ad 0), .int a1] (res.1) (q_WM cI ad (res.2)) := by
  refine q_ofi (res := res) (fun u : Int32 × IS => u.1) (fun u : Int32 × IS => (q_WM cI ad (u.2))) pl_X7 (Nat.le_of_ble_eq_true rfl) ?_
  intro p e s m args below meth c A Q hM hRet ls hl hP hD hS
  have hx := hM.1.1
  have hb := hM.1.2.1
  have hl : lv_has ls 5 [(0, .ref (ad 0)), (1, .int a1)] := hl
  unfold f_X7_peak at hF
  refine lv_aload_n hx hb dX7_peak_0 rfl (lv_at hl 0 rfl) ?_
  refine lv_iload_n hx hb dX7_peak_1 rfl (lv_at hl 1 rfl) ?_
  obtain ⟨r1, x2, hC3, hF⟩ := q_b2_e hF
  refine q_calli hM (c_X7_lastFrom l D cI cJ g ad _ _ _ hC3) hP hD hS ky_X7_lastFrom ml_X7_143 rfl rfl ⟨Nat.le_of_ble_eq_true rfl, Nat.le_of_ble_eq_true rfl⟩ 0 rfl rfl rfl hl.1 rfl (Nat.le_of_ble_eq_true rfl) ⟨Nat.zero_le _, Nat.zero_le _⟩ dX7_peak_2 (fun H locs hz4 hP hD hS => ?_)
  refine lv_istore_n (lv' := [(2, .int r1), (0, .ref (ad 0)), (1, .int a1)]) hx hb dX7_peak_5 rfl hl (by decide) rfl (fun ls hl => ?_)
  refine lv_iload_n hx hb dX7_peak_6 rfl (lv_at hl 2 rfl) ?_
  refine lv_istore_n (lv' := [(3, .int a1), (2, .int r1), (0, .ref (ad 0)), (1, .int a1)]) hx hb dX7_peak_7 rfl hl (by decide) rfl (fun ls hl => ?_)
  refine lv_iload_n hx hb dX7_peak_8 rfl (lv_at hl 3 rfl) ?_
  refine lv_istore (lv' := [(4, .int a1), (3, .int a1), (2, .int r1), (0, .ref (ad 0)), (1, .int a1)]) hx hb dX7_peak_9 hl (by decide) rfl (fun ls hl => ?_)
  have L11 : ∀ (k : Int32 → IS → Option (Int32 × IS)) (n : Nat) (v5 : Int32) (v6 : Int32) (x8 : IS) (H : Heap) (locs : List Loc) (ls : Array Slot), lv_has ls 5 [(0, .ref (ad 0)), (2, .int r1), (3, .int v5), (4, .int v6)] → va_P D vwCl (q_WM cI ad x8) H → va_D A (q_WM cI ad x8) → va_S A s.heap H locs → (∀ (e7 : Int32) (x9 : IS) (H : Heap) (locs : List Loc) (ls : Array Slot), lv_has ls 5 [(3, .int e7)] → va_P D vwCl (q_WM cI ad x9) H → va_D A (q_WM cI ad x9) → va_S A s.heap H locs → k e7 x9 = some res → W p l e { frames := 6, cells := 0, slots := 0, locals := 138 } s m args below meth c H locs 0 0 Q (F0 m 46 ls [])) → f_X7_peak_L11 r1 k n v5 v6 x8 = some res → W p l e { frames := 6, cells := 0, slots := 0, locals := 138 } s m args below meth c H locs 0 0 Q (F0 m 11 ls []) := by
    intro k n
    induction n with
    | zero => intro v5 v6 x8 H locs ls hl hP hD hS hk hF; exact q_no hF
    | succ n ih =>
      intro v5 v6 x8 H locs ls hl hP hD hS hk hF
      have hF : f_X7_peak_L11F r1 k (f_X7_peak_L11 r1 k n) v5 v6 x8 = some res := hF
      unfold f_X7_peak_L11F at hF
      refine lv_iload hx hb dX7_peak_11 (lv_at hl 3 rfl) ?_
      refine lv_iload_n hx hb dX7_peak_13 rfl (lv_at hl 1 rfl) ?_
      refine lv_icmp_gt (tgt := 46) hx hb dX7_peak_14 (by decide) (fun c10 => ?_) (fun c10 => ?_)
      · have hF := q_it hF c10
        exact hk _ _ _ _ _ (lv_sub hl [2] rfl) hP hD hS hF
      · have hF := q_ie hF c10
        refine lv_aload_n hx hb dX7_peak_17 rfl (lv_at hl 0 rfl) ?_
        refine qg_M_X7_now hM hP fl_X7_16 dX7_peak_18 ?_
        refine lv_iload hx hb dX7_peak_21 (lv_at hl 3 rfl) ?_
        obtain ⟨h11, hF⟩ := q_gd_e hF
        refine ql_M_X7_now hM hP h11 dX7_peak_23 ?_
        refine lv_aload_n hx hb dX7_peak_24 rfl (lv_at hl 0 rfl) ?_
        refine qg_M_X7_now hM hP fl_X7_16 dX7_peak_25 ?_
        refine lv_iload_n hx hb dX7_peak_28 rfl (lv_at hl 2 rfl) ?_
        obtain ⟨h12, hF⟩ := q_gd_e hF
        refine ql_M_X7_now hM hP h12 dX7_peak_29 ?_
        obtain ⟨J39, hJ39, hF⟩ := q_jn_e hF
        have K39 : ∀ (t14 : Int32) (H : Heap) (locs : List Loc) (ls : Array Slot), lv_has ls 5 [(0, .ref (ad 0)), (2, .int r1), (4, .int v6)] → va_P D vwCl (q_WM cI ad x8) H → va_D A (q_WM cI ad x8) → va_S A s.heap H locs → J39 t14 = some res → W p l e { frames := 6, cells := 0, slots := 0, locals := 138 } s m args below meth c H locs 0 0 Q (F0 m 39 ls [.int t14]) := by
          clear hF; intro t14 H locs ls hl hP hD hS hF
          rw [hJ39] at hF
          try dsimp only at hF
          refine lv_istore_n (lv' := [(3, .int t14), (0, .ref (ad 0)), (2, .int r1), (4, .int v6)]) hx hb dX7_peak_39 rfl hl (by decide) rfl (fun ls hl => ?_)
          obtain ⟨v15, ev15⟩ : ∃ y : Int32, y = v6 + 1 := ⟨_, rfl⟩
          have hF := q_let_e hF ev15
          refine lv_iinc (v := v15) (lv' := [(4, .int v15), (3, .int t14), (0, .ref (ad 0)), (2, .int r1)]) hx hb dX7_peak_40 hl (k := 3) rfl (by rw [ev15]; rfl) (by decide) rfl (fun ls hl => ?_)
          refine lv_goto (tgt := 11) hx hb dX7_peak_43 (by decide) ?_
          exact ih _ _ _ _ _ _ (lv_sub hl [2, 3, 1, 0] rfl) hP hD hS hk hF
        refine lv_icmp_le (tgt := 38) hx hb dX7_peak_30 (by decide) (fun c13 => ?_) (fun c13 => ?_)
        · have hF := q_it hF c13
          refine lv_iload_n hx hb dX7_peak_38 rfl (lv_at hl 2 rfl) ?_
          exact K39 _ _ _ _ (lv_sub hl [0, 1, 3] rfl) hP hD hS hF
        · have hF := q_ie hF c13
          refine lv_iload hx hb dX7_peak_33 (lv_at hl 3 rfl) ?_
          refine lv_goto (tgt := 39) hx hb dX7_peak_35 (by decide) ?_
          exact K39 _ _ _ _ (lv_sub hl [0, 1, 3] rfl) hP hD hS hF
  refine L11 _ _ _ _ _ _ _ _ (lv_sub hl [3, 2, 1, 0] rfl) hP hD hS ?_ hF
  clear hF
  intro e7 x9 H locs ls hl hP hD hS hF
  refine lv_iload_n hx hb dX7_peak_46 rfl (lv_at hl 0 rfl) ?_
  exact hRet (e7, x9) _ _ _ _ hF rfl dX7_peak_47 hP hD hS
theorem ky_X7_bunch : q_Y yX7_bunch cX7_bunch 5 (some .int) 2 := ⟨cw_X7_bunch, im_X7_bunch, se_X7_bunch, in_X7, by decide +kernel⟩
set_option maxHeartbeats 4000000 in
set_option maxRecDepth 100000 in
theorem c_X7_bunch (l : Launch) (D : va_G) (cI cJ : ClassId) (g : Nat → Nat) (ad : Nat → Nat) (x : IS) (a1 : Int32) (a2 : Int32) (res : Int32 × IS) (hF : f_X7_bunch x a1 a2 = some res) : q_Mi l yX7_bunch cX7_bunch 5 .int { frames := 7, cells := 0, slots := 0, locals := 162 } D cI cJ g (q_WM cI ad x) [.ref (ad 0), .int a1, .int a2] (res.1) (q_WM cI ad (res.2)) := by
  refine q_ofi (res := res) (fun u : Int32 × IS => u.1) (fun u : Int32 × IS => (q_WM cI ad (u.2))) pl_X7 (Nat.le_of_ble_eq_true rfl) ?_
  intro p e s m args below meth c A Q hM hRet ls hl hP hD hS
  have hx := hM.1.1
  have hb := hM.1.2.1
  have hl : lv_has ls 5 [(0, .ref (ad 0)), (1, .int a1), (2, .int a2)] := hl
  unfold f_X7_bunch at hF
  refine lv_iload_n hx hb dX7_bunch_0 rfl (lv_at hl 1 rfl) ?_
  refine lv_iconst (v := -1) hx hb dX7_bunch_1 (by decide) ?_
  refine lv_icmp_lt (tgt := 14) hx hb dX7_bunch_2 (by decide) (fun c1 => ?_) (fun c1 => ?_)
  · have hF := q_it hF c1
    refine lv_iconst (v := -1) hx hb dX7_bunch_14 (by decide) ?_
    exact hRet ((-1 : Int32), x) _ _ _ _ hF rfl dX7_bunch_15 hP hD hS
  · have hF := q_ie hF c1
    refine lv_iload_n hx hb dX7_bunch_5 rfl (lv_at hl 2 rfl) ?_
    refine lv_iconst (v := 0) hx hb dX7_bunch_6 (by decide) ?_
    refine lv_iconst (v := 2) hx hb dX7_bunch_7 (by decide) ?_
    obtain ⟨r2, hC3, hF⟩ := q_b1_e hF
    refine q_calliS hM (c_X7_isIn l D cI cJ g (q_WM cI ad x) _ _ _ _ hC3) hP hD hS ky_X7_isIn ml_X7_76 rfl rfl ⟨Nat.le_of_ble_eq_true rfl, Nat.le_of_ble_eq_true rfl⟩ rfl hl.1 rfl (Nat.le_of_ble_eq_true rfl) ⟨Nat.zero_le _, Nat.zero_le _⟩ dX7_bunch_8 (fun H locs hz4 hP hD hS => ?_)
    refine lv_if_ne (tgt := 16) hx hb dX7_bunch_11 (by decide) (fun c5 => ?_) (fun c5 => ?_)
    · have hF := q_ie hF c5
      refine lv_aload_n hx hb dX7_bunch_16 rfl (lv_at hl 0 rfl) ?_
      obtain ⟨r6, x7, hC8, hF⟩ := q_b2_e hF
      refine q_calli hM (c_X7_bunches l D cI cJ g ad _ _ hC8) hP hD hS ky_X7_bunches ml_X7_146 rfl rfl ⟨Nat.le_of_ble_eq_true rfl, Nat.le_of_ble_eq_true rfl⟩ 0 rfl rfl rfl hl.1 rfl (Nat.le_of_ble_eq_true rfl) ⟨Nat.zero_le _, Nat.zero_le _⟩ dX7_bunch_17 (fun H locs hz9 hP hD hS => ?_)
      refine lv_istore_n (lv' := [(3, .int r6), (0, .ref (ad 0)), (1, .int a1), (2, .int a2)]) hx hb dX7_bunch_20 rfl hl (by decide) rfl (fun ls hl => ?_)
      refine lv_iload_n hx hb dX7_bunch_21 rfl (lv_at hl 2 rfl) ?_
      obtain ⟨J30, hJ30, hF⟩ := q_jn_e hF
      have K30 : ∀ (H : Heap) (locs : List Loc) (ls : Array Slot), lv_has ls 5 [(1, .int a1), (3, .int r6)] → va_P D vwCl (q_WM cI ad x7) H → va_D A (q_WM cI ad x7) → va_S A s.heap H locs → J30 = some res → W p l e { frames := 7, cells := 0, slots := 0, locals := 162 } s m args below meth c H locs 0 0 Q (F0 m 30 ls []) := by
        clear hF; intro H locs ls hl hP hD hS hF
        rw [hJ30] at hF
        refine lv_iload_n hx hb dX7_bunch_30 rfl (lv_at hl 0 rfl) ?_
        refine lv_if_ge (tgt := 38) hx hb dX7_bunch_31 (by decide) (fun c26 => ?_) (fun c26 => ?_)
        · have hF := q_it hF c26
          refine lv_bipush (v := -4) hx hb dX7_bunch_38 (by decide) ?_
          exact hRet ((-4 : Int32), x7) _ _ _ _ hF rfl dX7_bunch_40 hP hD hS
        · have hF := q_ie hF c26
          refine lv_iload_n hx hb dX7_bunch_34 rfl (lv_at hl 1 rfl) ?_
          refine lv_goto (tgt := 40) hx hb dX7_bunch_35 (by decide) ?_
          exact hRet (r6, x7) _ _ _ _ hF rfl dX7_bunch_40 hP hD hS
      refine lv_if_lt (tgt := 30) hx hb dX7_bunch_22 (by decide) (fun c10 => ?_) (fun c10 => ?_)
      · have hF := q_it hF c10
        exact K30 _ _ _ (lv_sub hl [2, 0] rfl) hP hD hS hF
      · have hF := q_ie hF c10
        refine lv_iload_n hx hb dX7_bunch_25 rfl (lv_at hl 2 rfl) ?_
        refine lv_iload_n hx hb dX7_bunch_26 rfl (lv_at hl 0 rfl) ?_
        refine lv_icmp_lt (tgt := 41) hx hb dX7_bunch_27 (by decide) (fun c11 => ?_) (fun c11 => ?_)
        · have hF := q_it hF c11
          refine lv_aload_n hx hb dX7_bunch_41 rfl (lv_at hl 1 rfl) ?_
          refine lv_iload_n hx hb dX7_bunch_42 rfl (lv_at hl 2 rfl) ?_
          obtain ⟨r12, x13, hC14, hF⟩ := q_b2_e hF
          refine q_calli hM (c_X7_firstOf l D cI cJ g ad _ _ _ hC14) hP hD hS ky_X7_firstOf ml_X7_149 rfl rfl ⟨Nat.le_of_ble_eq_true rfl, Nat.le_of_ble_eq_true rfl⟩ 0 rfl rfl rfl hl.1 rfl (Nat.le_of_ble_eq_true rfl) ⟨Nat.zero_le _, Nat.zero_le _⟩ dX7_bunch_43 (fun H locs hz15 hP hD hS => ?_)
          refine lv_istore (lv' := [(4, .int r12), (3, .int r6), (0, .ref (ad 0)), (1, .int a1), (2, .int a2)]) hx hb dX7_bunch_46 hl (by decide) rfl (fun ls hl => ?_)
          refine lv_iload_n hx hb dX7_bunch_48 rfl (lv_at hl 4 rfl) ?_
          refine lv_if_ne (tgt := 57) hx hb dX7_bunch_49 (by decide) (fun c16 => ?_) (fun c16 => ?_)
          · have hF := q_ie hF c16
            refine lv_iload_n hx hb dX7_bunch_57 rfl (lv_at hl 4 rfl) ?_
            refine lv_iconst (v := 1) hx hb dX7_bunch_58 (by decide) ?_
            refine lv_icmp_ne (tgt := 71) hx hb dX7_bunch_59 (by decide) (fun c17 => ?_) (fun c17 => ?_)
            · have hF := q_ie hF c17
              refine lv_aload_n hx hb dX7_bunch_71 rfl (lv_at hl 2 rfl) ?_
              refine lv_iload hx hb dX7_bunch_72 (lv_at hl 0 rfl) ?_
              obtain ⟨r18, x19, hC20, hF⟩ := q_b2_e hF
              refine q_calli hM (c_X7_peak l D cI cJ g ad _ _ _ hC20) hP hD hS ky_X7_peak ml_X7_152 rfl rfl ⟨Nat.le_of_ble_eq_true rfl, Nat.le_of_ble_eq_true rfl⟩ 0 rfl rfl rfl hl.1 rfl (Nat.le_of_ble_eq_true rfl) ⟨Nat.zero_le _, Nat.zero_le _⟩ dX7_bunch_74 (fun H locs hz21 hP hD hS => ?_)
              exact hRet (r18, x19) _ _ _ _ hF rfl dX7_bunch_77 hP hD hS
            · have hF := q_it hF c17
              refine lv_aload_n hx hb dX7_bunch_62 rfl (lv_at hl 2 rfl) ?_
              refine lv_iload hx hb dX7_bunch_63 (lv_at hl 0 rfl) ?_
              obtain ⟨r22, x23, hC24, hF⟩ := q_b2_e hF
              refine q_calli hM (c_X7_lastFrom l D cI cJ g ad _ _ _ hC24) hP hD hS ky_X7_lastFrom ml_X7_143 rfl rfl ⟨Nat.le_of_ble_eq_true rfl, Nat.le_of_ble_eq_true rfl⟩ 0 rfl rfl rfl hl.1 rfl (Nat.le_of_ble_eq_true rfl) ⟨Nat.zero_le _, Nat.zero_le _⟩ dX7_bunch_65 (fun H locs hz25 hP hD hS => ?_)
              refine lv_goto (tgt := 77) hx hb dX7_bunch_68 (by decide) ?_
              exact hRet (r22, x23) _ _ _ _ hF rfl dX7_bunch_77 hP hD hS
          · have hF := q_it hF c16
            refine lv_iload hx hb dX7_bunch_52 (lv_at hl 0 rfl) ?_
            refine lv_goto (tgt := 77) hx hb dX7_bunch_54 (by decide) ?_
            exact hRet (r12, x13) _ _ _ _ hF rfl dX7_bunch_77 hP hD hS
        · have hF := q_ie hF c11
          exact K30 _ _ _ (lv_sub hl [2, 0] rfl) hP hD hS hF
    · have hF := q_it hF c5
      refine lv_iconst (v := -1) hx hb dX7_bunch_14 (by decide) ?_
      exact hRet ((-1 : Int32), x) _ _ _ _ hF rfl dX7_bunch_15 hP hD hS
theorem ky_X7_enough : q_Y yX7_enough cX7_enough 5 (some .int) 1 := ⟨cw_X7_enough, im_X7_enough, se_X7_enough, in_X7, by decide +kernel⟩
set_option maxHeartbeats 4000000 in
set_option maxRecDepth 100000 in
theorem c_X7_enough (l : Launch) (D : va_G) (cI cJ : ClassId) (g : Nat → Nat) (ad : Nat → Nat) (x : IS) (a1 : Int32) (res : Int32 × IS) (hF : f_X7_enough x a1 = some res) : q_Mi l yX7_enough cX7_enough 5 .int { frames := 6, cells := 0, slots := 0, locals := 138 } D cI cJ g (q_WM cI ad x) [.ref (ad 0), .int a1] (res.1) (q_WM cI ad (res.2)) := by
  refine q_ofi (res := res) (fun u : Int32 × IS => u.1) (fun u : Int32 × IS => (q_WM cI ad (u.2))) pl_X7 (Nat.le_of_ble_eq_true rfl) ?_
  intro p e s m args below meth c A Q hM hRet ls hl hP hD hS
  have hx := hM.1.1
  have hb := hM.1.2.1
  have hl : lv_has ls 5 [(0, .ref (ad 0)), (1, .int a1)] := hl
  unfold f_X7_enough at hF
  refine lv_iload_n hx hb dX7_enough_0 rfl (lv_at hl 1 rfl) ?_
  refine lv_iconst (v := 0) hx hb dX7_enough_1 (by decide) ?_
  refine lv_bipush (v := 48) hx hb dX7_enough_2 (by decide) ?_
  obtain ⟨r1, hC2, hF⟩ := q_b1_e hF
  refine q_calliS hM (c_X7_isIn l D cI cJ g (q_WM cI ad x) _ _ _ _ hC2) hP hD hS ky_X7_isIn ml_X7_76 rfl rfl ⟨Nat.le_of_ble_eq_true rfl, Nat.le_of_ble_eq_true rfl⟩ rfl hl.1 rfl (Nat.le_of_ble_eq_true rfl) ⟨Nat.zero_le _, Nat.zero_le _⟩ dX7_enough_4 (fun H locs hz3 hP hD hS => ?_)
  refine lv_if_ne (tgt := 12) hx hb dX7_enough_7 (by decide) (fun c4 => ?_) (fun c4 => ?_)
  · have hF := q_ie hF c4
    refine lv_aload_n hx hb dX7_enough_12 rfl (lv_at hl 0 rfl) ?_
    refine qg_M_X7_now hM hP fl_X7_16 dX7_enough_13 ?_
    refine lv_bipush (v := 99) hx hb dX7_enough_16 (by decide) ?_
    refine ql_M_X7_now hM hP (by decide) dX7_enough_18 ?_
    refine lv_topi (fun v5 ev5 => ?_)
    have hF := q_let_e hF ev5
    refine lv_istore_n (lv' := [(2, .int v5), (0, .ref (ad 0)), (1, .int a1)]) hx hb dX7_enough_19 rfl hl (by decide) rfl (fun ls hl => ?_)
    refine lv_bipush (v := -4) hx hb dX7_enough_20 (by decide) ?_
    refine lv_istore_n (lv' := [(3, .int (-4 : Int32)), (2, .int v5), (0, .ref (ad 0)), (1, .int a1)]) hx hb dX7_enough_22 rfl hl (by decide) rfl (fun ls hl => ?_)
    refine lv_bipush (v := 40) hx hb dX7_enough_23 (by decide) ?_
    refine lv_istore (lv' := [(4, .int (40 : Int32)), (3, .int (-4 : Int32)), (2, .int v5), (0, .ref (ad 0)), (1, .int a1)]) hx hb dX7_enough_25 hl (by decide) rfl (fun ls hl => ?_)
    have L27 : ∀ (k : Int32 → IS → Option (Int32 × IS)) (n : Nat) (v6 : Int32) (v7 : Int32) (x9 : IS) (H : Heap) (locs : List Loc) (ls : Array Slot), lv_has ls 5 [(0, .ref (ad 0)), (1, .int a1), (2, .int v5), (3, .int v6), (4, .int v7)] → va_P D vwCl (q_WM cI ad x9) H → va_D A (q_WM cI ad x9) → va_S A s.heap H locs → (∀ (e8 : Int32) (x10 : IS) (H : Heap) (locs : List Loc) (ls : Array Slot), lv_has ls 5 [(0, .ref (ad 0)), (2, .int v5), (3, .int e8)] → va_P D vwCl (q_WM cI ad x10) H → va_D A (q_WM cI ad x10) → va_S A s.heap H locs → k e8 x10 = some res → W p l e { frames := 6, cells := 0, slots := 0, locals := 138 } s m args below meth c H locs 0 0 Q (F0 m 62 ls [])) → f_X7_enough_L27 a1 v5 k n v6 v7 x9 = some res → W p l e { frames := 6, cells := 0, slots := 0, locals := 138 } s m args below meth c H locs 0 0 Q (F0 m 27 ls []) := by
      intro k n
      induction n with
      | zero => intro v6 v7 x9 H locs ls hl hP hD hS hk hF; exact q_no hF
      | succ n ih =>
        intro v6 v7 x9 H locs ls hl hP hD hS hk hF
        have hF : f_X7_enough_L27F a1 v5 k (f_X7_enough_L27 a1 v5 k n) v6 v7 x9 = some res := hF
        unfold f_X7_enough_L27F at hF
        refine lv_iload hx hb dX7_enough_27 (lv_at hl 4 rfl) ?_
        refine lv_if_le (tgt := 62) hx hb dX7_enough_29 (by decide) (fun c11 => ?_) (fun c11 => ?_)
        · have hF := q_it hF c11
          exact hk _ _ _ _ _ (lv_sub hl [0, 2, 3] rfl) hP hD hS hF
        · have hF := q_ie hF c11
          refine lv_aload_n hx hb dX7_enough_32 rfl (lv_at hl 0 rfl) ?_
          refine qg_M_X7_now hM hP fl_X7_16 dX7_enough_33 ?_
          refine lv_bipush (v := 99) hx hb dX7_enough_36 (by decide) ?_
          refine lv_iload hx hb dX7_enough_38 (lv_at hl 4 rfl) ?_
          refine qs_M_X7_now hM hP hD hS (by decide) dX7_enough_40 (fun x12 H locs ex12 hP hD hS => ?_)
          have hF := q_let_e hF ex12
          refine lv_aload_n hx hb dX7_enough_41 rfl (lv_at hl 0 rfl) ?_
          obtain ⟨r13, x14, hC15, hF⟩ := q_b2_e hF
          refine q_calli hM (c_X7_alarms l D cI cJ g ad _ _ hC15) hP hD hS ky_X7_alarms ml_X7_155 rfl rfl ⟨Nat.le_of_ble_eq_true rfl, Nat.le_of_ble_eq_true rfl⟩ 0 rfl rfl rfl hl.1 rfl (Nat.le_of_ble_eq_true rfl) ⟨Nat.zero_le _, Nat.zero_le _⟩ dX7_enough_42 (fun H locs hz16 hP hD hS => ?_)
          refine lv_iload_n hx hb dX7_enough_45 rfl (lv_at hl 1 rfl) ?_
          obtain ⟨J55, hJ55, hF⟩ := q_jn_e hF
          have K55 : ∀ (t18 : Int32) (H : Heap) (locs : List Loc) (ls : Array Slot), lv_has ls 5 [(0, .ref (ad 0)), (1, .int a1), (2, .int v5), (4, .int v7)] → va_P D vwCl (q_WM cI ad x14) H → va_D A (q_WM cI ad x14) → va_S A s.heap H locs → J55 t18 = some res → W p l e { frames := 6, cells := 0, slots := 0, locals := 138 } s m args below meth c H locs 0 0 Q (F0 m 55 ls [.int t18]) := by
            clear hF; intro t18 H locs ls hl hP hD hS hF
            rw [hJ55] at hF
            try dsimp only at hF
            refine lv_istore_n (lv' := [(3, .int t18), (0, .ref (ad 0)), (1, .int a1), (2, .int v5), (4, .int v7)]) hx hb dX7_enough_55 rfl hl (by decide) rfl (fun ls hl => ?_)
            obtain ⟨v19, ev19⟩ : ∃ y : Int32, y = v7 + (-1) := ⟨_, rfl⟩
            have hF := q_let_e hF ev19
            refine lv_iinc (v := v19) (lv' := [(4, .int v19), (3, .int t18), (0, .ref (ad 0)), (1, .int a1), (2, .int v5)]) hx hb dX7_enough_56 hl (k := 4) rfl (by rw [ev19]; rfl) (by decide) rfl (fun ls hl => ?_)
            refine lv_goto (tgt := 27) hx hb dX7_enough_59 (by decide) ?_
            exact ih _ _ _ _ _ _ (lv_sub hl [2, 3, 4, 1, 0] rfl) hP hD hS hk hF
          refine lv_icmp_gt (tgt := 54) hx hb dX7_enough_46 (by decide) (fun c17 => ?_) (fun c17 => ?_)
          · have hF := q_it hF c17
            refine lv_iload_n hx hb dX7_enough_54 rfl (lv_at hl 3 rfl) ?_
            exact K55 _ _ _ _ (lv_sub hl [0, 1, 2, 4] rfl) hP hD hS hF
          · have hF := q_ie hF c17
            refine lv_iload hx hb dX7_enough_49 (lv_at hl 4 rfl) ?_
            refine lv_goto (tgt := 55) hx hb dX7_enough_51 (by decide) ?_
            exact K55 _ _ _ _ (lv_sub hl [0, 1, 2, 4] rfl) hP hD hS hF
    refine L27 _ _ _ _ _ _ _ _ (lv_sub hl [3, 4, 2, 1, 0] rfl) hP hD hS ?_ hF
    clear hF
    intro e8 x10 H locs ls hl hP hD hS hF
    refine lv_aload_n hx hb dX7_enough_62 rfl (lv_at hl 0 rfl) ?_
    refine qg_M_X7_now hM hP fl_X7_16 dX7_enough_63 ?_
    refine lv_bipush (v := 99) hx hb dX7_enough_66 (by decide) ?_
    refine lv_iload_n hx hb dX7_enough_68 rfl (lv_at hl 1 rfl) ?_
    refine qs_M_X7_now hM hP hD hS (by decide) dX7_enough_69 (fun x20 H locs ex20 hP hD hS => ?_)
    have hF := q_let_e hF ex20
    refine lv_iload_n hx hb dX7_enough_70 rfl (lv_at hl 2 rfl) ?_
    exact hRet (e8, x20) _ _ _ _ hF rfl dX7_enough_71 hP hD hS
  · have hF := q_it hF c4
    refine lv_iconst (v := -1) hx hb dX7_enough_10 (by decide) ?_
    exact hRet ((-1 : Int32), x) _ _ _ _ hF rfl dX7_enough_11 hP hD hS
theorem ky_X7_noise : q_Y yX7_noise cX7_noise 2 (some .int) 1 := ⟨cw_X7_noise, im_X7_noise, se_X7_noise, in_X7, by decide +kernel⟩
set_option maxHeartbeats 4000000 in
set_option maxRecDepth 100000 in
theorem c_X7_noise (l : Launch) (D : va_G) (cI cJ : ClassId) (g : Nat → Nat) (ad : Nat → Nat) (x : IS) (a1 : Int32) (res : Int32) (hF : f_X7_noise x a1 = some res) : q_Mi l yX7_noise cX7_noise 2 .int { frames := 1, cells := 0, slots := 0, locals := 22 } D cI cJ g (q_WM cI ad x) [.ref (ad 0), .int a1] (res) (q_WM cI ad x) := by
  refine q_ofi (res := res) (fun u : Int32 => u) (fun _ : Int32 => (q_WM cI ad x)) pl_X7 (Nat.le_of_ble_eq_true rfl) ?_
  intro p e s m args below meth c A Q hM hRet ls hl hP hD hS
  have hx := hM.1.1
  have hb := hM.1.2.1
  have hl : lv_has ls 2 [(0, .ref (ad 0)), (1, .int a1)] := hl
  unfold f_X7_noise at hF
  refine lv_iload_n hx hb dX7_noise_0 rfl (lv_at hl 1 rfl) ?_
  refine lv_iconst (v := 0) hx hb dX7_noise_1 (by decide) ?_
  refine lv_bipush (v := 99) hx hb dX7_noise_2 (by decide) ?_
  obtain ⟨r1, hC2, hF⟩ := q_b1_e hF
  refine q_calliS hM (c_X7_isIn l D cI cJ g (q_WM cI ad x) _ _ _ _ hC2) hP hD hS ky_X7_isIn ml_X7_76 rfl rfl ⟨Nat.le_of_ble_eq_true rfl, Nat.le_of_ble_eq_true rfl⟩ rfl hl.1 rfl (Nat.le_of_ble_eq_true rfl) ⟨Nat.zero_le _, Nat.zero_le _⟩ dX7_noise_4 (fun H locs hz3 hP hD hS => ?_)
  refine lv_if_eq (tgt := 29) hx hb dX7_noise_7 (by decide) (fun c4 => ?_) (fun c4 => ?_)
  · have hF := q_it hF c4
    refine lv_iconst (v := -1) hx hb dX7_noise_29 (by decide) ?_
    exact hRet (-1 : Int32) _ _ _ _ hF rfl dX7_noise_30 hP hD hS
  · have hF := q_ie hF c4
    refine lv_iload_n hx hb dX7_noise_10 rfl (lv_at hl 1 rfl) ?_
    refine lv_bipush (v := 8) hx hb dX7_noise_11 (by decide) ?_
    refine lv_icmp_ge (tgt := 25) hx hb dX7_noise_13 (by decide) (fun c5 => ?_) (fun c5 => ?_)
    · have hF := q_it hF c5
      refine lv_iconst (v := 0) hx hb dX7_noise_25 (by decide) ?_
      refine lv_goto (tgt := 30) hx hb dX7_noise_26 (by decide) ?_
      exact hRet (0 : Int32) _ _ _ _ hF rfl dX7_noise_30 hP hD hS
    · have hF := q_ie hF c5
      refine lv_aload_n hx hb dX7_noise_16 rfl (lv_at hl 0 rfl) ?_
      refine qg_M_X7_noise hM hP fl_X7_13 dX7_noise_17 ?_
      refine lv_iload_n hx hb dX7_noise_20 rfl (lv_at hl 1 rfl) ?_
      obtain ⟨h6, hF⟩ := q_gd_e hF
      refine ql_M_X7_noise hM hP h6 dX7_noise_21 ?_
      refine lv_goto (tgt := 30) hx hb dX7_noise_22 (by decide) ?_
      exact hRet (x 4 a1.toNatClampNeg) _ _ _ _ hF rfl dX7_noise_30 hP hD hS
theorem ky_X7_weight : q_Y yX7_weight cX7_weight 3 (some .int) 0 := ⟨cw_X7_weight, im_X7_weight, se_X7_weight, in_X7, by decide +kernel⟩
set_option maxHeartbeats 4000000 in
set_option maxRecDepth 100000 in
theorem c_X7_weight (l : Launch) (D : va_G) (cI cJ : ClassId) (g : Nat → Nat) (ad : Nat → Nat) (x : IS) (res : Int32) (hF : f_X7_weight x = some res) : q_Mi l yX7_weight cX7_weight 3 .int { frames := 0, cells := 0, slots := 0, locals := 0 } D cI cJ g (q_WM cI ad x) [.ref (ad 0)] (res) (q_WM cI ad x) := by
  refine q_ofi (res := res) (fun u : Int32 => u) (fun _ : Int32 => (q_WM cI ad x)) pl_X7 (Nat.le_of_ble_eq_true rfl) ?_
  intro p e s m args below meth c A Q hM hRet ls hl hP hD hS
  have hx := hM.1.1
  have hb := hM.1.2.1
  have hl : lv_has ls 3 [(0, .ref (ad 0))] := hl
  unfold f_X7_weight at hF
  refine lv_iconst (v := 0) hx hb dX7_weight_0 (by decide) ?_
  refine lv_istore_n (lv' := [(1, .int (0 : Int32)), (0, .ref (ad 0))]) hx hb dX7_weight_1 rfl hl (by decide) rfl (fun ls hl => ?_)
  refine lv_iconst (v := 0) hx hb dX7_weight_2 (by decide) ?_
  refine lv_istore_n (lv' := [(2, .int (0 : Int32)), (1, .int (0 : Int32)), (0, .ref (ad 0))]) hx hb dX7_weight_3 rfl hl (by decide) rfl (fun ls hl => ?_)
  have L4 : ∀ (k : Int32 → Option (Int32)) (n : Nat) (v1 : Int32) (v2 : Int32) (H : Heap) (locs : List Loc) (ls : Array Slot), lv_has ls 3 [(0, .ref (ad 0)), (1, .int v1), (2, .int v2)] → va_P D vwCl (q_WM cI ad x) H → va_D A (q_WM cI ad x) → va_S A s.heap H locs → (∀ (e3 : Int32) (H : Heap) (locs : List Loc) (ls : Array Slot), lv_has ls 3 [(1, .int e3)] → va_P D vwCl (q_WM cI ad x) H → va_D A (q_WM cI ad x) → va_S A s.heap H locs → k e3 = some res → W p l e { frames := 0, cells := 0, slots := 0, locals := 0 } s m args below meth c H locs 0 0 Q (F0 m 25 ls [])) → f_X7_weight_L4 x k n v1 v2 = some res → W p l e { frames := 0, cells := 0, slots := 0, locals := 0 } s m args below meth c H locs 0 0 Q (F0 m 4 ls []) := by
    intro k n
    induction n with
    | zero => intro v1 v2 H locs ls hl hP hD hS hk hF; exact q_no hF
    | succ n ih =>
      intro v1 v2 H locs ls hl hP hD hS hk hF
      have hF : f_X7_weight_L4F x k (f_X7_weight_L4 x k n) v1 v2 = some res := hF
      unfold f_X7_weight_L4F at hF
      refine lv_iload_n hx hb dX7_weight_4 rfl (lv_at hl 2 rfl) ?_
      refine lv_bipush (v := 8) hx hb dX7_weight_5 (by decide) ?_
      refine lv_icmp_ge (tgt := 25) hx hb dX7_weight_7 (by decide) (fun c4 => ?_) (fun c4 => ?_)
      · have hF := q_it hF c4
        exact hk _ _ _ _ (lv_sub hl [1] rfl) hP hD hS hF
      · have hF := q_ie hF c4
        refine lv_iload_n hx hb dX7_weight_10 rfl (lv_at hl 1 rfl) ?_
        refine lv_aload_n hx hb dX7_weight_11 rfl (lv_at hl 0 rfl) ?_
        refine qg_M_X7_noise hM hP fl_X7_13 dX7_weight_12 ?_
        refine lv_iload_n hx hb dX7_weight_15 rfl (lv_at hl 2 rfl) ?_
        obtain ⟨h5, hF⟩ := q_gd_e hF
        refine ql_M_X7_noise hM hP h5 dX7_weight_16 ?_
        refine lv_iadd hx hb dX7_weight_17 ?_
        refine lv_topi (fun v6 ev6 => ?_)
        have hF := q_let_e hF ev6
        refine lv_istore_n (lv' := [(1, .int v6), (0, .ref (ad 0)), (2, .int v2)]) hx hb dX7_weight_18 rfl hl (by decide) rfl (fun ls hl => ?_)
        obtain ⟨v7, ev7⟩ : ∃ y : Int32, y = v2 + 1 := ⟨_, rfl⟩
        have hF := q_let_e hF ev7
        refine lv_iinc (v := v7) (lv' := [(2, .int v7), (1, .int v6), (0, .ref (ad 0))]) hx hb dX7_weight_19 hl (k := 2) rfl (by rw [ev7]; rfl) (by decide) rfl (fun ls hl => ?_)
        refine lv_goto (tgt := 4) hx hb dX7_weight_22 (by decide) ?_
        exact ih _ _ _ _ _ (lv_sub hl [2, 1, 0] rfl) hP hD hS hk hF
  refine L4 _ _ _ _ _ _ _ (lv_sub hl [2, 1, 0] rfl) hP hD hS ?_ hF
  clear hF
  intro e3 H locs ls hl hP hD hS hF
  refine lv_iload_n hx hb dX7_weight_25 rfl (lv_at hl 0 rfl) ?_
  exact hRet e3 _ _ _ _ hF rfl dX7_weight_26 hP hD hS
theorem ky_X7_power1 : q_YS yX7_power1 cX7_power1 6 (some .long) 2 := ⟨cw_X7_power1, st_X7_power1, in_X7, by decide +kernel⟩
set_option maxHeartbeats 4000000 in
set_option maxRecDepth 100000 in
theorem c_X7_power1 (l : Launch) (D : va_G) (cI cJ : ClassId) (g : Nat → Nat) (w : va_W) (a1 : Int64) (a2 : Int32) (res : Int64) (hF : f_X7_power1 a1 a2 = some res) : q_Ml l yX7_power1 cX7_power1 6 { frames := 0, cells := 0, slots := 0, locals := 0 } D cI cJ g w [.long a1, .int a2] (res) w := by
  refine q_ofl (res := res) (fun u : Int64 => u) (fun _ : Int64 => w) pl_X7 (Nat.le_of_ble_eq_true rfl) ?_
  intro p e s m args below meth c A Q hM hRet ls hl hP hD hS
  have hx := hM.1.1
  have hb := hM.1.2.1
  have hl : lv_has ls 6 [(0, .long a1), (2, .int a2)] := hl
  unfold f_X7_power1 at hF
  refine lv_lconst (v := 1) hx hb dX7_power1_0 (by decide) ?_
  refine lv_lstore_n (lv' := [(3, .long (1 : Int64)), (0, .long a1), (2, .int a2)]) hx hb dX7_power1_1 rfl hl (by decide) rfl (fun ls hl => ?_)
  refine lv_iconst (v := 0) hx hb dX7_power1_2 (by decide) ?_
  refine lv_istore (lv' := [(5, .int (0 : Int32)), (3, .long (1 : Int64)), (0, .long a1), (2, .int a2)]) hx hb dX7_power1_3 hl (by decide) rfl (fun ls hl => ?_)
  have L5 : ∀ (k : Int64 → Option (Int64)) (n : Nat) (v1 : Int64) (v2 : Int32) (H : Heap) (locs : List Loc) (ls : Array Slot), lv_has ls 6 [(0, .long a1), (2, .int a2), (3, .long v1), (5, .int v2)] → va_P D vwCl w H → va_D A w → va_S A s.heap H locs → (∀ (e3 : Int64) (H : Heap) (locs : List Loc) (ls : Array Slot), lv_has ls 6 [(3, .long e3)] → va_P D vwCl w H → va_D A w → va_S A s.heap H locs → k e3 = some res → W p l e { frames := 0, cells := 0, slots := 0, locals := 0 } s m args below meth c H locs 0 0 Q (F0 m 21 ls [])) → f_X7_power1_L5 a1 a2 k n v1 v2 = some res → W p l e { frames := 0, cells := 0, slots := 0, locals := 0 } s m args below meth c H locs 0 0 Q (F0 m 5 ls []) := by
    intro k n
    induction n with
    | zero => intro v1 v2 H locs ls hl hP hD hS hk hF; exact q_no hF
    | succ n ih =>
      intro v1 v2 H locs ls hl hP hD hS hk hF
      have hF : f_X7_power1_L5F a1 a2 k (f_X7_power1_L5 a1 a2 k n) v1 v2 = some res := hF
      unfold f_X7_power1_L5F at hF
      refine lv_iload hx hb dX7_power1_5 (lv_at hl 3 rfl) ?_
      refine lv_iload_n hx hb dX7_power1_7 rfl (lv_at hl 1 rfl) ?_
      refine lv_icmp_ge (tgt := 21) hx hb dX7_power1_8 (by decide) (fun c4 => ?_) (fun c4 => ?_)
      · have hF := q_it hF c4
        exact hk _ _ _ _ (lv_sub hl [2] rfl) hP hD hS hF
      · have hF := q_ie hF c4
        refine lv_lload_n hx hb dX7_power1_11 rfl (lv_at hl 2 rfl) ?_
        refine lv_lload_n hx hb dX7_power1_12 rfl (lv_at hl 0 rfl) ?_
        refine lv_lmul hx hb dX7_power1_13 ?_
        refine lv_topl (fun v5 ev5 => ?_)
        have hF := q_let_e hF ev5
        refine lv_lstore_n (lv' := [(3, .long v5), (0, .long a1), (2, .int a2), (5, .int v2)]) hx hb dX7_power1_14 rfl hl (by decide) rfl (fun ls hl => ?_)
        obtain ⟨v6, ev6⟩ : ∃ y : Int32, y = v2 + 1 := ⟨_, rfl⟩
        have hF := q_let_e hF ev6
        refine lv_iinc (v := v6) (lv' := [(5, .int v6), (3, .long v5), (0, .long a1), (2, .int a2)]) hx hb dX7_power1_15 hl (k := 3) rfl (by rw [ev6]; rfl) (by decide) rfl (fun ls hl => ?_)
        refine lv_goto (tgt := 5) hx hb dX7_power1_18 (by decide) ?_
        exact ih _ _ _ _ _ (lv_sub hl [2, 3, 1, 0] rfl) hP hD hS hk hF
  refine L5 _ _ _ _ _ _ _ (lv_sub hl [2, 3, 1, 0] rfl) hP hD hS ?_ hF
  clear hF
  intro e3 H locs ls hl hP hD hS hF
  refine lv_lload_n hx hb dX7_power1_21 rfl (lv_at hl 0 rfl) ?_
  exact hRet e3 _ _ _ _ hF dX7_power1_22 hP hD hS
theorem ky_X7_choose : q_YS yX7_choose cX7_choose 5 (some .long) 2 := ⟨cw_X7_choose, st_X7_choose, in_X7, by decide +kernel⟩
set_option maxHeartbeats 4000000 in
set_option maxRecDepth 100000 in
theorem c_X7_choose (l : Launch) (D : va_G) (cI cJ : ClassId) (g : Nat → Nat) (w : va_W) (a1 : Int32) (a2 : Int32) (res : Int64) (hF : f_X7_choose a1 a2 = some res) : q_Ml l yX7_choose cX7_choose 5 { frames := 0, cells := 0, slots := 0, locals := 0 } D cI cJ g w [.int a1, .int a2] (res) w := by
  refine q_ofl (res := res) (fun u : Int64 => u) (fun _ : Int64 => w) pl_X7 (Nat.le_of_ble_eq_true rfl) ?_
  intro p e s m args below meth c A Q hM hRet ls hl hP hD hS
  have hx := hM.1.1
  have hb := hM.1.2.1
  have hl : lv_has ls 5 [(0, .int a1), (1, .int a2)] := hl
  unfold f_X7_choose at hF
  refine lv_lconst (v := 1) hx hb dX7_choose_0 (by decide) ?_
  refine lv_lstore_n (lv' := [(2, .long (1 : Int64)), (0, .int a1), (1, .int a2)]) hx hb dX7_choose_1 rfl hl (by decide) rfl (fun ls hl => ?_)
  refine lv_iconst (v := 0) hx hb dX7_choose_2 (by decide) ?_
  refine lv_istore (lv' := [(4, .int (0 : Int32)), (2, .long (1 : Int64)), (0, .int a1), (1, .int a2)]) hx hb dX7_choose_3 hl (by decide) rfl (fun ls hl => ?_)
  have L5 : ∀ (k : Int64 → Option (Int64)) (n : Nat) (v1 : Int64) (v2 : Int32) (H : Heap) (locs : List Loc) (ls : Array Slot), lv_has ls 5 [(0, .int a1), (1, .int a2), (2, .long v1), (4, .int v2)] → va_P D vwCl w H → va_D A w → va_S A s.heap H locs → (∀ (e3 : Int64) (H : Heap) (locs : List Loc) (ls : Array Slot), lv_has ls 5 [(2, .long e3)] → va_P D vwCl w H → va_D A w → va_S A s.heap H locs → k e3 = some res → W p l e { frames := 0, cells := 0, slots := 0, locals := 0 } s m args below meth c H locs 0 0 Q (F0 m 31 ls [])) → f_X7_choose_L5 a1 a2 k n v1 v2 = some res → W p l e { frames := 0, cells := 0, slots := 0, locals := 0 } s m args below meth c H locs 0 0 Q (F0 m 5 ls []) := by
    intro k n
    induction n with
    | zero => intro v1 v2 H locs ls hl hP hD hS hk hF; exact q_no hF
    | succ n ih =>
      intro v1 v2 H locs ls hl hP hD hS hk hF
      have hF : f_X7_choose_L5F a1 a2 k (f_X7_choose_L5 a1 a2 k n) v1 v2 = some res := hF
      unfold f_X7_choose_L5F at hF
      refine lv_iload hx hb dX7_choose_5 (lv_at hl 3 rfl) ?_
      refine lv_iload_n hx hb dX7_choose_7 rfl (lv_at hl 1 rfl) ?_
      refine lv_icmp_ge (tgt := 31) hx hb dX7_choose_8 (by decide) (fun c4 => ?_) (fun c4 => ?_)
      · have hF := q_it hF c4
        exact hk _ _ _ _ (lv_sub hl [2] rfl) hP hD hS hF
      · have hF := q_ie hF c4
        refine lv_lload_n hx hb dX7_choose_11 rfl (lv_at hl 2 rfl) ?_
        refine lv_iload_n hx hb dX7_choose_12 rfl (lv_at hl 0 rfl) ?_
        refine lv_iload hx hb dX7_choose_13 (lv_at hl 3 rfl) ?_
        refine lv_isub hx hb dX7_choose_15 ?_
        refine lv_i2l hx hb dX7_choose_16 rfl ?_
        refine lv_lmul hx hb dX7_choose_17 ?_
        refine lv_iload hx hb dX7_choose_18 (lv_at hl 3 rfl) ?_
        refine lv_iconst (v := 1) hx hb dX7_choose_20 (by decide) ?_
        refine lv_iadd hx hb dX7_choose_21 ?_
        refine lv_i2l hx hb dX7_choose_22 rfl ?_
        obtain ⟨h5, hF⟩ := q_gd_e hF
        refine lv_ldiv hx hb dX7_choose_23 h5 ?_
        refine lv_topl (fun v6 ev6 => ?_)
        have hF := q_let_e hF ev6
        refine lv_lstore_n (lv' := [(2, .long v6), (0, .int a1), (1, .int a2), (4, .int v2)]) hx hb dX7_choose_24 rfl hl (by decide) rfl (fun ls hl => ?_)
        obtain ⟨v7, ev7⟩ : ∃ y : Int32, y = v2 + 1 := ⟨_, rfl⟩
        have hF := q_let_e hF ev7
        refine lv_iinc (v := v7) (lv' := [(4, .int v7), (2, .long v6), (0, .int a1), (1, .int a2)]) hx hb dX7_choose_25 hl (k := 3) rfl (by rw [ev7]; rfl) (by decide) rfl (fun ls hl => ?_)
        refine lv_goto (tgt := 5) hx hb dX7_choose_28 (by decide) ?_
        exact ih _ _ _ _ _ (lv_sub hl [2, 3, 1, 0] rfl) hP hD hS hk hF
  refine L5 _ _ _ _ _ _ _ (lv_sub hl [2, 3, 1, 0] rfl) hP hD hS ?_ hF
  clear hF
  intro e3 H locs ls hl hP hD hS hF
  refine lv_lload_n hx hb dX7_choose_31 rfl (lv_at hl 0 rfl) ?_
  exact hRet e3 _ _ _ _ hF dX7_choose_32 hP hD hS
theorem ky_X7_within : q_Y yX7_within cX7_within 10 (some .long) 2 := ⟨cw_X7_within, im_X7_within, se_X7_within, in_X7, by decide +kernel⟩
set_option maxHeartbeats 4000000 in
set_option maxRecDepth 100000 in
theorem c_X7_within (l : Launch) (D : va_G) (cI cJ : ClassId) (g : Nat → Nat) (ad : Nat → Nat) (x : IS) (a1 : Int32) (a2 : Int64) (res : Int64) (hF : f_X7_within x a1 a2 = some res) : q_Ml l yX7_within cX7_within 10 { frames := 1, cells := 0, slots := 0, locals := 25 } D cI cJ g (q_WM cI ad x) [.ref (ad 0), .int a1, .long a2] (res) (q_WM cI ad x) := by
  refine q_ofl (res := res) (fun u : Int64 => u) (fun _ : Int64 => (q_WM cI ad x)) pl_X7 (Nat.le_of_ble_eq_true rfl) ?_
  intro p e s m args below meth c A Q hM hRet ls hl hP hD hS
  have hx := hM.1.1
  have hb := hM.1.2.1
  have hl : lv_has ls 10 [(0, .ref (ad 0)), (1, .int a1), (2, .long a2)] := hl
  unfold f_X7_within at hF
  refine lv_aload_n hx hb dX7_within_0 rfl (lv_at hl 0 rfl) ?_
  refine qg_M_X7_now hM hP fl_X7_16 dX7_within_1 ?_
  refine lv_bipush (v := 98) hx hb dX7_within_4 (by decide) ?_
  refine ql_M_X7_now hM hP (by decide) dX7_within_6 ?_
  refine lv_iload_n hx hb dX7_within_7 rfl (lv_at hl 1 rfl) ?_
  obtain ⟨J22, hJ22, hF⟩ := q_jn_e hF
  have K22 : ∀ (t2 : Int32) (H : Heap) (locs : List Loc) (ls : Array Slot), lv_has ls 10 [(0, .ref (ad 0)), (1, .int a1), (2, .long a2)] → va_P D vwCl (q_WM cI ad x) H → va_D A (q_WM cI ad x) → va_S A s.heap H locs → J22 t2 = some res → W p l e { frames := 1, cells := 0, slots := 0, locals := 25 } s m args below meth c H locs 0 0 Q (F0 m 22 ls [.int t2]) := by
    clear hF; intro t2 H locs ls hl hP hD hS hF
    rw [hJ22] at hF
    try dsimp only at hF
    refine lv_istore (lv' := [(4, .int t2), (0, .ref (ad 0)), (1, .int a1), (2, .long a2)]) hx hb dX7_within_22 hl (by decide) rfl (fun ls hl => ?_)
    refine lv_aload_n hx hb dX7_within_24 rfl (lv_at hl 1 rfl) ?_
    obtain ⟨r3, hC4, hF⟩ := q_b1_e hF
    refine q_calli hM (c_X7_weight l D cI cJ g ad _ _ hC4) hP hD hS ky_X7_weight ml_X7_158 rfl rfl ⟨Nat.le_of_ble_eq_true rfl, Nat.le_of_ble_eq_true rfl⟩ 0 rfl rfl rfl hl.1 rfl (Nat.le_of_ble_eq_true rfl) ⟨Nat.zero_le _, Nat.zero_le _⟩ dX7_within_25 (fun H locs hz5 hP hD hS => ?_)
    refine lv_i2l hx hb dX7_within_28 rfl ?_
    refine lv_topl (fun v6 ev6 => ?_)
    have hF := q_let_e hF ev6
    refine lv_lstore (lv' := [(5, .long v6), (4, .int t2), (0, .ref (ad 0)), (1, .int a1), (2, .long a2)]) hx hb dX7_within_29 hl (by decide) rfl (fun ls hl => ?_)
    refine lv_lconst (v := 0) hx hb dX7_within_31 (by decide) ?_
    refine lv_lstore (lv' := [(7, .long (0 : Int64)), (5, .long v6), (4, .int t2), (0, .ref (ad 0)), (1, .int a1), (2, .long a2)]) hx hb dX7_within_32 hl (by decide) rfl (fun ls hl => ?_)
    refine lv_iload hx hb dX7_within_34 (lv_at hl 2 rfl) ?_
    refine lv_istore (lv' := [(9, .int t2), (7, .long (0 : Int64)), (5, .long v6), (4, .int t2), (0, .ref (ad 0)), (1, .int a1), (2, .long a2)]) hx hb dX7_within_36 hl (by decide) rfl (fun ls hl => ?_)
    have L38 : ∀ (k : Int64 → Option (Int64)) (n : Nat) (v7 : Int64) (v8 : Int32) (H : Heap) (locs : List Loc) (ls : Array Slot), lv_has ls 10 [(1, .int a1), (2, .long a2), (5, .long v6), (7, .long v7), (9, .int v8)] → va_P D vwCl (q_WM cI ad x) H → va_D A (q_WM cI ad x) → va_S A s.heap H locs → (∀ (e9 : Int64) (H : Heap) (locs : List Loc) (ls : Array Slot), lv_has ls 10 [(7, .long e9)] → va_P D vwCl (q_WM cI ad x) H → va_D A (q_WM cI ad x) → va_S A s.heap H locs → k e9 = some res → W p l e { frames := 1, cells := 0, slots := 0, locals := 25 } s m args below meth c H locs 0 0 Q (F0 m 80 ls [])) → f_X7_within_L38 x a1 a2 v6 k n v7 v8 = some res → W p l e { frames := 1, cells := 0, slots := 0, locals := 25 } s m args below meth c H locs 0 0 Q (F0 m 38 ls []) := by
      intro k n
      induction n with
      | zero => intro v7 v8 H locs ls hl hP hD hS hk hF; exact q_no hF
      | succ n ih =>
        intro v7 v8 H locs ls hl hP hD hS hk hF
        have hF : f_X7_within_L38F x a1 a2 v6 k (f_X7_within_L38 x a1 a2 v6 k n) v7 v8 = some res := hF
        unfold f_X7_within_L38F at hF
        refine lv_iload hx hb dX7_within_38 (lv_at hl 4 rfl) ?_
        refine lv_iload_n hx hb dX7_within_40 rfl (lv_at hl 0 rfl) ?_
        refine lv_icmp_gt (tgt := 80) hx hb dX7_within_41 (by decide) (fun c10 => ?_) (fun c10 => ?_)
        · have hF := q_it hF c10
          exact hk _ _ _ _ (lv_sub hl [3] rfl) hP hD hS hF
        · have hF := q_ie hF c10
          refine lv_lload hx hb dX7_within_44 (lv_at hl 3 rfl) ?_
          refine lv_iload_n hx hb dX7_within_46 rfl (lv_at hl 0 rfl) ?_
          refine lv_iload hx hb dX7_within_47 (lv_at hl 4 rfl) ?_
          obtain ⟨r11, hC12, hF⟩ := q_b1_e hF
          refine q_calllS hM (c_X7_choose l D cI cJ g (q_WM cI ad x) _ _ _ hC12) hP hD hS ky_X7_choose ml_X7_161 rfl rfl ⟨Nat.le_of_ble_eq_true rfl, Nat.le_of_ble_eq_true rfl⟩ rfl hl.1 rfl (Nat.le_of_ble_eq_true rfl) ⟨Nat.zero_le _, Nat.zero_le _⟩ dX7_within_49 (fun H locs hP hD hS => ?_)
          refine lv_lload_n hx hb dX7_within_52 rfl (lv_at hl 1 rfl) ?_
          refine lv_iload hx hb dX7_within_53 (lv_at hl 4 rfl) ?_
          obtain ⟨r13, hC14, hF⟩ := q_b1_e hF
          refine q_calllS hM (c_X7_power1 l D cI cJ g (q_WM cI ad x) _ _ _ hC14) hP hD hS ky_X7_power1 ml_X7_165 rfl rfl ⟨Nat.le_of_ble_eq_true rfl, Nat.le_of_ble_eq_true rfl⟩ rfl hl.1 rfl (Nat.le_of_ble_eq_true rfl) ⟨Nat.zero_le _, Nat.zero_le _⟩ dX7_within_55 (fun H locs hP hD hS => ?_)
          refine lv_lmul hx hb dX7_within_58 ?_
          refine lv_lload hx hb dX7_within_59 (lv_at hl 2 rfl) ?_
          refine lv_lload_n hx hb dX7_within_61 rfl (lv_at hl 1 rfl) ?_
          refine lv_lsub hx hb dX7_within_62 ?_
          refine lv_iload_n hx hb dX7_within_63 rfl (lv_at hl 0 rfl) ?_
          refine lv_iload hx hb dX7_within_64 (lv_at hl 4 rfl) ?_
          refine lv_isub hx hb dX7_within_66 ?_
          obtain ⟨r15, hC16, hF⟩ := q_b1_e hF
          refine q_calllS hM (c_X7_power1 l D cI cJ g (q_WM cI ad x) _ _ _ hC16) hP hD hS ky_X7_power1 ml_X7_165 rfl rfl ⟨Nat.le_of_ble_eq_true rfl, Nat.le_of_ble_eq_true rfl⟩ rfl hl.1 rfl (Nat.le_of_ble_eq_true rfl) ⟨Nat.zero_le _, Nat.zero_le _⟩ dX7_within_67 (fun H locs hP hD hS => ?_)
          refine lv_lmul hx hb dX7_within_70 ?_
          refine lv_ladd hx hb dX7_within_71 ?_
          refine lv_topl (fun v17 ev17 => ?_)
          have hF := q_let_e hF ev17
          refine lv_lstore (lv' := [(7, .long v17), (1, .int a1), (2, .long a2), (5, .long v6), (9, .int v8)]) hx hb dX7_within_72 hl (by decide) rfl (fun ls hl => ?_)
          obtain ⟨v18, ev18⟩ : ∃ y : Int32, y = v8 + 1 := ⟨_, rfl⟩
          have hF := q_let_e hF ev18
          refine lv_iinc (v := v18) (lv' := [(9, .int v18), (7, .long v17), (1, .int a1), (2, .long a2), (5, .long v6)]) hx hb dX7_within_74 hl (k := 4) rfl (by rw [ev18]; rfl) (by decide) rfl (fun ls hl => ?_)
          refine lv_goto (tgt := 38) hx hb dX7_within_77 (by decide) ?_
          exact ih _ _ _ _ _ (lv_sub hl [2, 3, 4, 1, 0] rfl) hP hD hS hk hF
    refine L38 _ _ _ _ _ _ _ (lv_sub hl [5, 6, 2, 1, 0] rfl) hP hD hS ?_ hF
    clear hF
    intro e9 H locs ls hl hP hD hS hF
    refine lv_lload hx hb dX7_within_80 (lv_at hl 0 rfl) ?_
    exact hRet e9 _ _ _ _ hF dX7_within_82 hP hD hS
  refine lv_icmp_ge (tgt := 21) hx hb dX7_within_8 (by decide) (fun c1 => ?_) (fun c1 => ?_)
  · have hF := q_it hF c1
    refine lv_iload_n hx hb dX7_within_21 rfl (lv_at hl 1 rfl) ?_
    exact K22 _ _ _ _ (lv_sub hl [0, 1, 2] rfl) hP hD hS hF
  · have hF := q_ie hF c1
    refine lv_aload_n hx hb dX7_within_11 rfl (lv_at hl 0 rfl) ?_
    refine qg_M_X7_now hM hP fl_X7_16 dX7_within_12 ?_
    refine lv_bipush (v := 98) hx hb dX7_within_15 (by decide) ?_
    refine ql_M_X7_now hM hP (by decide) dX7_within_17 ?_
    refine lv_goto (tgt := 22) hx hb dX7_within_18 (by decide) ?_
    exact K22 _ _ _ _ (lv_sub hl [0, 1, 2] rfl) hP hD hS hF
theorem ky_X7_floors : q_Y yX7_floors cX7_floors 8 (some .long) 1 := ⟨cw_X7_floors, im_X7_floors, se_X7_floors, in_X7, by decide +kernel⟩
set_option maxHeartbeats 4000000 in
set_option maxRecDepth 100000 in
theorem c_X7_floors (l : Launch) (D : va_G) (cI cJ : ClassId) (g : Nat → Nat) (ad : Nat → Nat) (x : IS) (a1 : Int64) (res : Int64) (hF : f_X7_floors x a1 = some res) : q_Ml l yX7_floors cX7_floors 8 { frames := 2, cells := 0, slots := 0, locals := 54 } D cI cJ g (q_WM cI ad x) [.ref (ad 0), .long a1] (res) (q_WM cI ad x) := by
  refine q_ofl (res := res) (fun u : Int64 => u) (fun _ : Int64 => (q_WM cI ad x)) pl_X7 (Nat.le_of_ble_eq_true rfl) ?_
  intro p e s m args below meth c A Q hM hRet ls hl hP hD hS
  have hx := hM.1.1
  have hb := hM.1.2.1
  have hl : lv_has ls 8 [(0, .ref (ad 0)), (1, .long a1)] := hl
  unfold f_X7_floors at hF
  refine lv_aload_n hx hb dX7_floors_0 rfl (lv_at hl 0 rfl) ?_
  refine qg_M_X7_now hM hP fl_X7_16 dX7_floors_1 ?_
  refine lv_bipush (v := 96) hx hb dX7_floors_4 (by decide) ?_
  refine ql_M_X7_now hM hP (by decide) dX7_floors_6 ?_
  refine lv_topi (fun v1 ev1 => ?_)
  have hF := q_let_e hF ev1
  refine lv_istore_n (lv' := [(3, .int v1), (0, .ref (ad 0)), (1, .long a1)]) hx hb dX7_floors_7 rfl hl (by decide) rfl (fun ls hl => ?_)
  refine lv_aload_n hx hb dX7_floors_8 rfl (lv_at hl 1 rfl) ?_
  refine qg_M_X7_now hM hP fl_X7_16 dX7_floors_9 ?_
  refine lv_bipush (v := 101) hx hb dX7_floors_12 (by decide) ?_
  refine ql_M_X7_now hM hP (by decide) dX7_floors_14 ?_
  refine lv_if_ne (tgt := 27) hx hb dX7_floors_15 (by decide) (fun c2 => ?_) (fun c2 => ?_)
  · have hF := q_ie hF c2
    refine lv_aload_n hx hb dX7_floors_27 rfl (lv_at hl 1 rfl) ?_
    refine lv_iload_n hx hb dX7_floors_28 rfl (lv_at hl 0 rfl) ?_
    refine lv_lload_n hx hb dX7_floors_29 rfl (lv_at hl 2 rfl) ?_
    obtain ⟨r3, hC4, hF⟩ := q_b1_e hF
    refine q_calll hM (c_X7_within l D cI cJ g ad _ _ _ _ hC4) hP hD hS ky_X7_within ml_X7_169 rfl rfl ⟨Nat.le_of_ble_eq_true rfl, Nat.le_of_ble_eq_true rfl⟩ 0 rfl rfl rfl hl.1 rfl (Nat.le_of_ble_eq_true rfl) ⟨Nat.zero_le _, Nat.zero_le _⟩ dX7_floors_30 (fun H locs hP hD hS => ?_)
    refine lv_lstore (lv' := [(4, .long r3), (3, .int v1), (0, .ref (ad 0)), (1, .long a1)]) hx hb dX7_floors_33 hl (by decide) rfl (fun ls hl => ?_)
    refine lv_aload_n hx hb dX7_floors_35 rfl (lv_at hl 2 rfl) ?_
    obtain ⟨r5, hC6, hF⟩ := q_b1_e hF
    refine q_calli hM (c_X7_weight l D cI cJ g ad _ _ hC6) hP hD hS ky_X7_weight ml_X7_158 rfl rfl ⟨Nat.le_of_ble_eq_true rfl, Nat.le_of_ble_eq_true rfl⟩ 0 rfl rfl rfl hl.1 rfl (Nat.le_of_ble_eq_true rfl) ⟨Nat.zero_le _, Nat.zero_le _⟩ dX7_floors_36 (fun H locs hz7 hP hD hS => ?_)
    refine lv_i2l hx hb dX7_floors_39 rfl ?_
    refine lv_iload_n hx hb dX7_floors_40 rfl (lv_at hl 1 rfl) ?_
    obtain ⟨r8, hC9, hF⟩ := q_b1_e hF
    refine q_calllS hM (c_X7_power1 l D cI cJ g (q_WM cI ad x) _ _ _ hC9) hP hD hS ky_X7_power1 ml_X7_165 rfl rfl ⟨Nat.le_of_ble_eq_true rfl, Nat.le_of_ble_eq_true rfl⟩ rfl hl.1 rfl (Nat.le_of_ble_eq_true rfl) ⟨Nat.zero_le _, Nat.zero_le _⟩ dX7_floors_41 (fun H locs hP hD hS => ?_)
    refine lv_lstore (lv' := [(6, .long r8), (4, .long r3), (3, .int v1), (0, .ref (ad 0)), (1, .long a1)]) hx hb dX7_floors_44 hl (by decide) rfl (fun ls hl => ?_)
    refine lv_aload_n hx hb dX7_floors_46 rfl (lv_at hl 3 rfl) ?_
    refine qg_M_X7_now hM hP fl_X7_16 dX7_floors_47 ?_
    refine lv_bipush (v := 101) hx hb dX7_floors_50 (by decide) ?_
    refine ql_M_X7_now hM hP (by decide) dX7_floors_52 ?_
    refine lv_iconst (v := 1) hx hb dX7_floors_53 (by decide) ?_
    refine lv_icmp_ne (tgt := 65) hx hb dX7_floors_54 (by decide) (fun c10 => ?_) (fun c10 => ?_)
    · have hF := q_ie hF c10
      refine lv_lload hx hb dX7_floors_65 (lv_at hl 0 rfl) ?_
      refine lv_lload hx hb dX7_floors_67 (lv_at hl 0 rfl) ?_
      refine lv_lmul hx hb dX7_floors_69 ?_
      refine lv_lload hx hb dX7_floors_70 (lv_at hl 0 rfl) ?_
      refine lv_lload hx hb dX7_floors_72 (lv_at hl 1 rfl) ?_
      refine lv_lsub hx hb dX7_floors_74 ?_
      refine lv_lload hx hb dX7_floors_75 (lv_at hl 0 rfl) ?_
      refine lv_lload hx hb dX7_floors_77 (lv_at hl 1 rfl) ?_
      refine lv_lsub hx hb dX7_floors_79 ?_
      refine lv_lmul hx hb dX7_floors_80 ?_
      refine lv_lsub hx hb dX7_floors_81 ?_
      exact hRet ((r8 * r8) - ((r8 - r3) * (r8 - r3))) _ _ _ _ hF dX7_floors_82 hP hD hS
    · have hF := q_it hF c10
      refine lv_lload hx hb dX7_floors_57 (lv_at hl 1 rfl) ?_
      refine lv_lload hx hb dX7_floors_59 (lv_at hl 1 rfl) ?_
      refine lv_lmul hx hb dX7_floors_61 ?_
      refine lv_goto (tgt := 82) hx hb dX7_floors_62 (by decide) ?_
      exact hRet (r3 * r3) _ _ _ _ hF dX7_floors_82 hP hD hS
  · have hF := q_it hF c2
    refine lv_aload_n hx hb dX7_floors_18 rfl (lv_at hl 1 rfl) ?_
    refine lv_iconst (v := 2) hx hb dX7_floors_19 (by decide) ?_
    refine lv_iload_n hx hb dX7_floors_20 rfl (lv_at hl 0 rfl) ?_
    refine lv_imul hx hb dX7_floors_21 ?_
    refine lv_lload_n hx hb dX7_floors_22 rfl (lv_at hl 2 rfl) ?_
    obtain ⟨r11, hC12, hF⟩ := q_b1_e hF
    refine q_calll hM (c_X7_within l D cI cJ g ad _ _ _ _ hC12) hP hD hS ky_X7_within ml_X7_169 rfl rfl ⟨Nat.le_of_ble_eq_true rfl, Nat.le_of_ble_eq_true rfl⟩ 0 rfl rfl rfl hl.1 rfl (Nat.le_of_ble_eq_true rfl) ⟨Nat.zero_le _, Nat.zero_le _⟩ dX7_floors_23 (fun H locs hP hD hS => ?_)
    exact hRet r11 _ _ _ _ hF dX7_floors_26 hP hD hS
theorem ky_X7_falses : q_Y yX7_falses cX7_falses 14 (some .long) 1 := ⟨cw_X7_falses, im_X7_falses, se_X7_falses, in_X7, by decide +kernel⟩
set_option maxHeartbeats 4000000 in
set_option maxRecDepth 100000 in
theorem c_X7_falses (l : Launch) (D : va_G) (cI cJ : ClassId) (g : Nat → Nat) (ad : Nat → Nat) (x : IS) (a1 : Int32) (res : Int64) (hF : f_X7_falses x a1 = some res) : q_Ml l yX7_falses cX7_falses 14 { frames := 3, cells := 0, slots := 0, locals := 81 } D cI cJ g (q_WM cI ad x) [.ref (ad 0), .int a1] (res) (q_WM cI ad x) := by
  refine q_ofl (res := res) (fun u : Int64 => u) (fun _ : Int64 => (q_WM cI ad x)) pl_X7 (Nat.le_of_ble_eq_true rfl) ?_
  intro p e s m args below meth c A Q hM hRet ls hl hP hD hS
  have hx := hM.1.1
  have hb := hM.1.2.1
  have hl : lv_has ls 14 [(0, .ref (ad 0)), (1, .int a1)] := hl
  unfold f_X7_falses at hF
  refine lv_lconst (v := 0) hx hb dX7_falses_0 (by decide) ?_
  refine lv_lstore_n (lv' := [(2, .long (0 : Int64)), (0, .ref (ad 0)), (1, .int a1)]) hx hb dX7_falses_1 rfl hl (by decide) rfl (fun ls hl => ?_)
  refine lv_lconst (v := 0) hx hb dX7_falses_2 (by decide) ?_
  refine lv_lstore (lv' := [(4, .long (0 : Int64)), (2, .long (0 : Int64)), (0, .ref (ad 0)), (1, .int a1)]) hx hb dX7_falses_3 hl (by decide) rfl (fun ls hl => ?_)
  refine lv_lconst (v := 0) hx hb dX7_falses_5 (by decide) ?_
  refine lv_lstore (lv' := [(6, .long (0 : Int64)), (4, .long (0 : Int64)), (2, .long (0 : Int64)), (0, .ref (ad 0)), (1, .int a1)]) hx hb dX7_falses_6 hl (by decide) rfl (fun ls hl => ?_)
  refine lv_iconst (v := 0) hx hb dX7_falses_8 (by decide) ?_
  refine lv_istore (lv' := [(8, .int (0 : Int32)), (6, .long (0 : Int64)), (4, .long (0 : Int64)), (2, .long (0 : Int64)), (0, .ref (ad 0)), (1, .int a1)]) hx hb dX7_falses_9 hl (by decide) rfl (fun ls hl => ?_)
  have L11 : ∀ (k : Int64 → Option (Int64)) (n : Nat) (v1 : Int64) (v2 : Int64) (v3 : Int64) (v4 : Int32) (H : Heap) (locs : List Loc) (ls : Array Slot), lv_has ls 14 [(0, .ref (ad 0)), (1, .int a1), (2, .long v1), (4, .long v2), (6, .long v3), (8, .int v4)] → va_P D vwCl (q_WM cI ad x) H → va_D A (q_WM cI ad x) → va_S A s.heap H locs → (∀ (e5 : Int64) (H : Heap) (locs : List Loc) (ls : Array Slot), lv_has ls 14 [(2, .long e5)] → va_P D vwCl (q_WM cI ad x) H → va_D A (q_WM cI ad x) → va_S A s.heap H locs → k e5 = some res → W p l e { frames := 3, cells := 0, slots := 0, locals := 81 } s m args below meth c H locs 0 0 Q (F0 m 113 ls [])) → f_X7_falses_L11 x a1 k n v1 v2 v3 v4 = some res → W p l e { frames := 3, cells := 0, slots := 0, locals := 81 } s m args below meth c H locs 0 0 Q (F0 m 11 ls []) := by
    intro k n
    induction n with
    | zero => intro v1 v2 v3 v4 H locs ls hl hP hD hS hk hF; exact q_no hF
    | succ n ih =>
      intro v1 v2 v3 v4 H locs ls hl hP hD hS hk hF
      have hF : f_X7_falses_L11F x a1 k (f_X7_falses_L11 x a1 k n) v1 v2 v3 v4 = some res := hF
      unfold f_X7_falses_L11F at hF
      refine lv_iload hx hb dX7_falses_11 (lv_at hl 5 rfl) ?_
      refine lv_bipush (v := 8) hx hb dX7_falses_13 (by decide) ?_
      refine lv_icmp_ge (tgt := 113) hx hb dX7_falses_15 (by decide) (fun c6 => ?_) (fun c6 => ?_)
      · have hF := q_it hF c6
        exact hk _ _ _ _ (lv_sub hl [2] rfl) hP hD hS hF
      · have hF := q_ie hF c6
        refine lv_lload hx hb dX7_falses_18 (lv_at hl 4 rfl) ?_
        refine lv_aload_n hx hb dX7_falses_20 rfl (lv_at hl 0 rfl) ?_
        refine qg_M_X7_noise hM hP fl_X7_13 dX7_falses_21 ?_
        refine lv_iload hx hb dX7_falses_24 (lv_at hl 5 rfl) ?_
        obtain ⟨h7, hF⟩ := q_gd_e hF
        refine ql_M_X7_noise hM hP h7 dX7_falses_26 ?_
        refine lv_i2l hx hb dX7_falses_27 rfl ?_
        refine lv_ladd hx hb dX7_falses_28 ?_
        refine lv_topl (fun v8 ev8 => ?_)
        have hF := q_let_e hF ev8
        refine lv_lstore (lv' := [(6, .long v8), (0, .ref (ad 0)), (1, .int a1), (2, .long v1), (4, .long v2), (8, .int v4)]) hx hb dX7_falses_29 hl (by decide) rfl (fun ls hl => ?_)
        refine lv_aload_n hx hb dX7_falses_31 rfl (lv_at hl 1 rfl) ?_
        refine lv_lload hx hb dX7_falses_32 (lv_at hl 0 rfl) ?_
        obtain ⟨r9, hC10, hF⟩ := q_b1_e hF
        refine q_calll hM (c_X7_floors l D cI cJ g ad _ _ _ hC10) hP hD hS ky_X7_floors ml_X7_173 rfl rfl ⟨Nat.le_of_ble_eq_true rfl, Nat.le_of_ble_eq_true rfl⟩ 0 rfl rfl rfl hl.1 rfl (Nat.le_of_ble_eq_true rfl) ⟨Nat.zero_le _, Nat.zero_le _⟩ dX7_falses_34 (fun H locs hP hD hS => ?_)
        refine lv_lstore (lv' := [(9, .long r9), (6, .long v8), (0, .ref (ad 0)), (1, .int a1), (2, .long v1), (4, .long v2), (8, .int v4)]) hx hb dX7_falses_37 hl (by decide) rfl (fun ls hl => ?_)
        refine lv_lconst (v := 0) hx hb dX7_falses_39 (by decide) ?_
        refine lv_lstore (lv' := [(11, .long (0 : Int64)), (9, .long r9), (6, .long v8), (0, .ref (ad 0)), (1, .int a1), (2, .long v1), (4, .long v2), (8, .int v4)]) hx hb dX7_falses_40 hl (by decide) rfl (fun ls hl => ?_)
        refine lv_iconst (v := 0) hx hb dX7_falses_42 (by decide) ?_
        refine lv_istore (lv' := [(13, .int (0 : Int32)), (11, .long (0 : Int64)), (9, .long r9), (6, .long v8), (0, .ref (ad 0)), (1, .int a1), (2, .long v1), (4, .long v2), (8, .int v4)]) hx hb dX7_falses_43 hl (by decide) rfl (fun ls hl => ?_)
        have L45 : ∀ (k : Int64 → Option (Int64)) (n : Nat) (v11 : Int64) (v12 : Int32) (H : Heap) (locs : List Loc) (ls : Array Slot), lv_has ls 14 [(0, .ref (ad 0)), (1, .int a1), (2, .long v1), (4, .long v2), (6, .long v8), (8, .int v4), (9, .long r9), (11, .long v11), (13, .int v12)] → va_P D vwCl (q_WM cI ad x) H → va_D A (q_WM cI ad x) → va_S A s.heap H locs → (∀ (e13 : Int64) (H : Heap) (locs : List Loc) (ls : Array Slot), lv_has ls 14 [(0, .ref (ad 0)), (1, .int a1), (2, .long v1), (4, .long v2), (6, .long v8), (8, .int v4), (9, .long r9), (11, .long e13)] → va_P D vwCl (q_WM cI ad x) H → va_D A (q_WM cI ad x) → va_S A s.heap H locs → k e13 = some res → W p l e { frames := 3, cells := 0, slots := 0, locals := 81 } s m args below meth c H locs 0 0 Q (F0 m 92 ls [])) → f_X7_falses_L45 x a1 v1 v2 v8 v4 r9 k n v11 v12 = some res → W p l e { frames := 3, cells := 0, slots := 0, locals := 81 } s m args below meth c H locs 0 0 Q (F0 m 45 ls []) := by
          intro k n
          induction n with
          | zero => intro v11 v12 H locs ls hl hP hD hS hk hF; exact q_no hF
          | succ n ih =>
            intro v11 v12 H locs ls hl hP hD hS hk hF
            have hF : f_X7_falses_L45F x a1 v1 v2 v8 v4 r9 k (f_X7_falses_L45 x a1 v1 v2 v8 v4 r9 k n) v11 v12 = some res := hF
            unfold f_X7_falses_L45F at hF
            refine lv_iload hx hb dX7_falses_45 (lv_at hl 8 rfl) ?_
            refine lv_bipush (v := 8) hx hb dX7_falses_47 (by decide) ?_
            refine lv_icmp_ge (tgt := 92) hx hb dX7_falses_49 (by decide) (fun c14 => ?_) (fun c14 => ?_)
            · have hF := q_it hF c14
              exact hk _ _ _ _ (lv_sub hl [0, 1, 2, 3, 4, 5, 6, 7] rfl) hP hD hS hF
            · have hF := q_ie hF c14
              refine lv_lload hx hb dX7_falses_52 (lv_at hl 7 rfl) ?_
              refine lv_aload_n hx hb dX7_falses_54 rfl (lv_at hl 0 rfl) ?_
              refine qg_M_X7_now hM hP fl_X7_16 dX7_falses_55 ?_
              refine lv_bipush (v := 100) hx hb dX7_falses_58 (by decide) ?_
              refine ql_M_X7_now hM hP (by decide) dX7_falses_60 ?_
              refine lv_iload hx hb dX7_falses_61 (lv_at hl 8 rfl) ?_
              refine lv_imul hx hb dX7_falses_63 ?_
              refine lv_iload_n hx hb dX7_falses_64 rfl (lv_at hl 1 rfl) ?_
              refine lv_iload hx hb dX7_falses_65 (lv_at hl 5 rfl) ?_
              refine lv_imul hx hb dX7_falses_67 ?_
              obtain ⟨J83, hJ83, hF⟩ := q_jn_e hF
              have K83 : ∀ (t17 : Int64) (H : Heap) (locs : List Loc) (ls : Array Slot), lv_has ls 14 [(0, .ref (ad 0)), (1, .int a1), (2, .long v1), (4, .long v2), (6, .long v8), (8, .int v4), (9, .long r9), (13, .int v12)] → va_P D vwCl (q_WM cI ad x) H → va_D A (q_WM cI ad x) → va_S A s.heap H locs → J83 t17 = some res → W p l e { frames := 3, cells := 0, slots := 0, locals := 81 } s m args below meth c H locs 0 0 Q (F0 m 83 ls [.long t17, .long v11]) := by
                clear hF; intro t17 H locs ls hl hP hD hS hF
                rw [hJ83] at hF
                try dsimp only at hF
                refine lv_ladd hx hb dX7_falses_83 ?_
                refine lv_topl (fun v18 ev18 => ?_)
                have hF := q_let_e hF ev18
                refine lv_lstore (lv' := [(11, .long v18), (0, .ref (ad 0)), (1, .int a1), (2, .long v1), (4, .long v2), (6, .long v8), (8, .int v4), (9, .long r9), (13, .int v12)]) hx hb dX7_falses_84 hl (by decide) rfl (fun ls hl => ?_)
                obtain ⟨v19, ev19⟩ : ∃ y : Int32, y = v12 + 1 := ⟨_, rfl⟩
                have hF := q_let_e hF ev19
                refine lv_iinc (v := v19) (lv' := [(13, .int v19), (11, .long v18), (0, .ref (ad 0)), (1, .int a1), (2, .long v1), (4, .long v2), (6, .long v8), (8, .int v4), (9, .long r9)]) hx hb dX7_falses_86 hl (k := 8) rfl (by rw [ev19]; rfl) (by decide) rfl (fun ls hl => ?_)
                refine lv_goto (tgt := 45) hx hb dX7_falses_89 (by decide) ?_
                exact ih _ _ _ _ _ (lv_sub hl [2, 3, 4, 5, 6, 7, 8, 1, 0] rfl) hP hD hS hk hF
              refine lv_icmp_le (tgt := 82) hx hb dX7_falses_68 (by decide) (fun c15 => ?_) (fun c15 => ?_)
              · have hF := q_it hF c15
                refine lv_lconst (v := 0) hx hb dX7_falses_82 (by decide) ?_
                exact K83 _ _ _ _ (lv_sub hl [0, 1, 2, 3, 4, 5, 6, 8] rfl) hP hD hS hF
              · have hF := q_ie hF c15
                refine lv_aload_n hx hb dX7_falses_71 rfl (lv_at hl 0 rfl) ?_
                refine qg_M_X7_noise hM hP fl_X7_13 dX7_falses_72 ?_
                refine lv_iload hx hb dX7_falses_75 (lv_at hl 8 rfl) ?_
                obtain ⟨h16, hF⟩ := q_gd_e hF
                refine ql_M_X7_noise hM hP h16 dX7_falses_77 ?_
                refine lv_i2l hx hb dX7_falses_78 rfl ?_
                refine lv_goto (tgt := 83) hx hb dX7_falses_79 (by decide) ?_
                exact K83 _ _ _ _ (lv_sub hl [0, 1, 2, 3, 4, 5, 6, 8] rfl) hP hD hS hF
        refine L45 _ _ _ _ _ _ _ (lv_sub hl [4, 5, 6, 7, 3, 8, 2, 1, 0] rfl) hP hD hS ?_ hF
        clear hF
        intro e13 H locs ls hl hP hD hS hF
        refine lv_lload_n hx hb dX7_falses_92 rfl (lv_at hl 2 rfl) ?_
        refine lv_lload hx hb dX7_falses_93 (lv_at hl 6 rfl) ?_
        refine lv_lload hx hb dX7_falses_95 (lv_at hl 3 rfl) ?_
        refine lv_lsub hx hb dX7_falses_97 ?_
        refine lv_lload hx hb dX7_falses_98 (lv_at hl 7 rfl) ?_
        refine lv_lmul hx hb dX7_falses_100 ?_
        refine lv_ladd hx hb dX7_falses_101 ?_
        refine lv_topl (fun v20 ev20 => ?_)
        have hF := q_let_e hF ev20
        refine lv_lstore_n (lv' := [(2, .long v20), (0, .ref (ad 0)), (1, .int a1), (4, .long v2), (6, .long v8), (8, .int v4), (9, .long r9), (11, .long e13)]) hx hb dX7_falses_102 rfl hl (by decide) rfl (fun ls hl => ?_)
        refine lv_lload hx hb dX7_falses_103 (lv_at hl 6 rfl) ?_
        refine lv_lstore (lv' := [(4, .long r9), (2, .long v20), (0, .ref (ad 0)), (1, .int a1), (6, .long v8), (8, .int v4), (9, .long r9), (11, .long e13)]) hx hb dX7_falses_105 hl (by decide) rfl (fun ls hl => ?_)
        obtain ⟨v21, ev21⟩ : ∃ y : Int32, y = v4 + 1 := ⟨_, rfl⟩
        have hF := q_let_e hF ev21
        refine lv_iinc (v := v21) (lv' := [(8, .int v21), (4, .long r9), (2, .long v20), (0, .ref (ad 0)), (1, .int a1), (6, .long v8), (9, .long r9), (11, .long e13)]) hx hb dX7_falses_107 hl (k := 5) rfl (by rw [ev21]; rfl) (by decide) rfl (fun ls hl => ?_)
        refine lv_goto (tgt := 11) hx hb dX7_falses_110 (by decide) ?_
        exact ih _ _ _ _ _ _ _ (lv_sub hl [3, 4, 2, 1, 5, 0] rfl) hP hD hS hk hF
  refine L11 _ _ _ _ _ _ _ _ _ (lv_sub hl [4, 5, 3, 2, 1, 0] rfl) hP hD hS ?_ hF
  clear hF
  intro e5 H locs ls hl hP hD hS hF
  refine lv_lload_n hx hb dX7_falses_113 rfl (lv_at hl 0 rfl) ?_
  exact hRet e5 _ _ _ _ hF dX7_falses_114 hP hD hS
theorem ky_X7_allWays : q_Y yX7_allWays cX7_allWays 1 (some .long) 0 := ⟨cw_X7_allWays, im_X7_allWays, se_X7_allWays, in_X7, by decide +kernel⟩
set_option maxHeartbeats 4000000 in
set_option maxRecDepth 100000 in
theorem c_X7_allWays (l : Launch) (D : va_G) (cI cJ : ClassId) (g : Nat → Nat) (ad : Nat → Nat) (x : IS) (res : Int64) (hF : f_X7_allWays x = some res) : q_Ml l yX7_allWays cX7_allWays 1 { frames := 1, cells := 0, slots := 0, locals := 25 } D cI cJ g (q_WM cI ad x) [.ref (ad 0)] (res) (q_WM cI ad x) := by
  refine q_ofl (res := res) (fun u : Int64 => u) (fun _ : Int64 => (q_WM cI ad x)) pl_X7 (Nat.le_of_ble_eq_true rfl) ?_
  intro p e s m args below meth c A Q hM hRet ls hl hP hD hS
  have hx := hM.1.1
  have hb := hM.1.2.1
  have hl : lv_has ls 1 [(0, .ref (ad 0))] := hl
  unfold f_X7_allWays at hF
  refine lv_aload_n hx hb dX7_allWays_0 rfl (lv_at hl 0 rfl) ?_
  obtain ⟨r1, hC2, hF⟩ := q_b1_e hF
  refine q_calli hM (c_X7_weight l D cI cJ g ad _ _ hC2) hP hD hS ky_X7_weight ml_X7_158 rfl rfl ⟨Nat.le_of_ble_eq_true rfl, Nat.le_of_ble_eq_true rfl⟩ 0 rfl rfl rfl hl.1 rfl (Nat.le_of_ble_eq_true rfl) ⟨Nat.zero_le _, Nat.zero_le _⟩ dX7_allWays_1 (fun H locs hz3 hP hD hS => ?_)
  refine lv_i2l hx hb dX7_allWays_4 rfl ?_
  refine lv_iconst (v := 2) hx hb dX7_allWays_5 (by decide) ?_
  refine lv_aload_n hx hb dX7_allWays_6 rfl (lv_at hl 0 rfl) ?_
  refine qg_M_X7_now hM hP fl_X7_16 dX7_allWays_7 ?_
  refine lv_bipush (v := 96) hx hb dX7_allWays_10 (by decide) ?_
  refine ql_M_X7_now hM hP (by decide) dX7_allWays_12 ?_
  refine lv_imul hx hb dX7_allWays_13 ?_
  refine lv_iconst (v := 1) hx hb dX7_allWays_14 (by decide) ?_
  refine lv_iadd hx hb dX7_allWays_15 ?_
  obtain ⟨r4, hC5, hF⟩ := q_b1_e hF
  refine q_calllS hM (c_X7_power1 l D cI cJ g (q_WM cI ad x) _ _ _ hC5) hP hD hS ky_X7_power1 ml_X7_165 rfl rfl ⟨Nat.le_of_ble_eq_true rfl, Nat.le_of_ble_eq_true rfl⟩ rfl hl.1 rfl (Nat.le_of_ble_eq_true rfl) ⟨Nat.zero_le _, Nat.zero_le _⟩ dX7_allWays_16 (fun H locs hP hD hS => ?_)
  exact hRet r4 _ _ _ _ hF dX7_allWays_19 hP hD hS
theorem ky_X7_common : q_YS yX7_common cX7_common 10 (some .long) 2 := ⟨cw_X7_common, st_X7_common, in_X7, by decide +kernel⟩
set_option maxHeartbeats 4000000 in
set_option maxRecDepth 100000 in
theorem c_X7_common (l : Launch) (D : va_G) (cI cJ : ClassId) (g : Nat → Nat) (w : va_W) (a1 : Int64) (a2 : Int64) (res : Int64) (hF : f_X7_common a1 a2 = some res) : q_Ml l yX7_common cX7_common 10 { frames := 0, cells := 0, slots := 0, locals := 0 } D cI cJ g w [.long a1, .long a2] (res) w := by
  refine q_ofl (res := res) (fun u : Int64 => u) (fun _ : Int64 => w) pl_X7 (Nat.le_of_ble_eq_true rfl) ?_
  intro p e s m args below meth c A Q hM hRet ls hl hP hD hS
  have hx := hM.1.1
  have hb := hM.1.2.1
  have hl : lv_has ls 10 [(0, .long a1), (2, .long a2)] := hl
  unfold f_X7_common at hF
  refine lv_lload_n hx hb dX7_common_0 rfl (lv_at hl 0 rfl) ?_
  refine lv_lstore (lv' := [(4, .long a1), (0, .long a1), (2, .long a2)]) hx hb dX7_common_1 hl (by decide) rfl (fun ls hl => ?_)
  refine lv_lload_n hx hb dX7_common_3 rfl (lv_at hl 2 rfl) ?_
  refine lv_lstore (lv' := [(6, .long a2), (4, .long a1), (0, .long a1), (2, .long a2)]) hx hb dX7_common_4 hl (by decide) rfl (fun ls hl => ?_)
  have L6 : ∀ (k : Int64 → Option (Int64)) (n : Nat) (v1 : Int64) (v2 : Int64) (H : Heap) (locs : List Loc) (ls : Array Slot), lv_has ls 10 [(4, .long v1), (6, .long v2)] → va_P D vwCl w H → va_D A w → va_S A s.heap H locs → (∀ (e3 : Int64) (H : Heap) (locs : List Loc) (ls : Array Slot), lv_has ls 10 [(4, .long e3)] → va_P D vwCl w H → va_D A w → va_S A s.heap H locs → k e3 = some res → W p l e { frames := 0, cells := 0, slots := 0, locals := 0 } s m args below meth c H locs 0 0 Q (F0 m 31 ls [])) → f_X7_common_L6 k n v1 v2 = some res → W p l e { frames := 0, cells := 0, slots := 0, locals := 0 } s m args below meth c H locs 0 0 Q (F0 m 6 ls []) := by
    intro k n
    induction n with
    | zero => intro v1 v2 H locs ls hl hP hD hS hk hF; exact q_no hF
    | succ n ih =>
      intro v1 v2 H locs ls hl hP hD hS hk hF
      have hF : f_X7_common_L6F k (f_X7_common_L6 k n) v1 v2 = some res := hF
      unfold f_X7_common_L6F at hF
      refine lv_lload hx hb dX7_common_6 (lv_at hl 1 rfl) ?_
      refine lv_lconst (v := 0) hx hb dX7_common_8 (by decide) ?_
      refine W.lcmp hx hb dX7_common_9 ?_
      refine lv_if_eq (tgt := 31) hx hb dX7_common_10 (by decide) (fun c4 => ?_) (fun c4 => ?_)
      · have hF := q_it hF c4
        exact hk _ _ _ _ (lv_sub hl [0] rfl) hP hD hS hF
      · have hF := q_ie hF c4
        refine lv_lload hx hb dX7_common_13 (lv_at hl 0 rfl) ?_
        refine lv_lload hx hb dX7_common_15 (lv_at hl 1 rfl) ?_
        obtain ⟨h5, hF⟩ := q_gd_e hF
        refine lv_lrem hx hb dX7_common_17 h5 ?_
        refine lv_topl (fun v6 ev6 => ?_)
        have hF := q_let_e hF ev6
        refine lv_lstore (lv' := [(8, .long v6), (4, .long v1), (6, .long v2)]) hx hb dX7_common_18 hl (by decide) rfl (fun ls hl => ?_)
        refine lv_lload hx hb dX7_common_20 (lv_at hl 2 rfl) ?_
        refine lv_lstore (lv' := [(4, .long v2), (8, .long v6), (6, .long v2)]) hx hb dX7_common_22 hl (by decide) rfl (fun ls hl => ?_)
        refine lv_lload hx hb dX7_common_24 (lv_at hl 1 rfl) ?_
        refine lv_lstore (lv' := [(6, .long v6), (4, .long v2), (8, .long v6)]) hx hb dX7_common_26 hl (by decide) rfl (fun ls hl => ?_)
        refine lv_goto (tgt := 6) hx hb dX7_common_28 (by decide) ?_
        exact ih _ _ _ _ _ (lv_sub hl [1, 0] rfl) hP hD hS hk hF
  refine L6 _ _ _ _ _ _ _ (lv_sub hl [1, 0] rfl) hP hD hS ?_ hF
  clear hF
  intro e3 H locs ls hl hP hD hS hF
  refine lv_lload hx hb dX7_common_31 (lv_at hl 0 rfl) ?_
  exact hRet e3 _ _ _ _ hF dX7_common_33 hP hD hS
theorem ky_X7_odds : q_Y yX7_odds cX7_odds 8 (some .long) 1 := ⟨cw_X7_odds, im_X7_odds, se_X7_odds, in_X7, by decide +kernel⟩
set_option maxHeartbeats 4000000 in
set_option maxRecDepth 100000 in
theorem c_X7_odds (l : Launch) (D : va_G) (cI cJ : ClassId) (g : Nat → Nat) (ad : Nat → Nat) (x : IS) (a1 : Int32) (res : Int64) (hF : f_X7_odds x a1 = some res) : q_Ml l yX7_odds cX7_odds 8 { frames := 4, cells := 0, slots := 0, locals := 114 } D cI cJ g (q_WM cI ad x) [.ref (ad 0), .int a1] (res) (q_WM cI ad x) := by
  refine q_ofl (res := res) (fun u : Int64 => u) (fun _ : Int64 => (q_WM cI ad x)) pl_X7 (Nat.le_of_ble_eq_true rfl) ?_
  intro p e s m args below meth c A Q hM hRet ls hl hP hD hS
  have hx := hM.1.1
  have hb := hM.1.2.1
  have hl : lv_has ls 8 [(0, .ref (ad 0)), (1, .int a1)] := hl
  unfold f_X7_odds at hF
  refine lv_iload_n hx hb dX7_odds_0 rfl (lv_at hl 1 rfl) ?_
  refine lv_iconst (v := 0) hx hb dX7_odds_1 (by decide) ?_
  refine lv_iconst (v := 1) hx hb dX7_odds_2 (by decide) ?_
  obtain ⟨r1, hC2, hF⟩ := q_b1_e hF
  refine q_calliS hM (c_X7_isIn l D cI cJ g (q_WM cI ad x) _ _ _ _ hC2) hP hD hS ky_X7_isIn ml_X7_76 rfl rfl ⟨Nat.le_of_ble_eq_true rfl, Nat.le_of_ble_eq_true rfl⟩ rfl hl.1 rfl (Nat.le_of_ble_eq_true rfl) ⟨Nat.zero_le _, Nat.zero_le _⟩ dX7_odds_3 (fun H locs hz3 hP hD hS => ?_)
  refine lv_if_ne (tgt := 13) hx hb dX7_odds_6 (by decide) (fun c4 => ?_) (fun c4 => ?_)
  · have hF := q_ie hF c4
    refine lv_aload_n hx hb dX7_odds_13 rfl (lv_at hl 0 rfl) ?_
    refine lv_aload_n hx hb dX7_odds_14 rfl (lv_at hl 0 rfl) ?_
    refine qg_M_X7_now hM hP fl_X7_16 dX7_odds_15 ?_
    refine lv_bipush (v := 99) hx hb dX7_odds_18 (by decide) ?_
    refine ql_M_X7_now hM hP (by decide) dX7_odds_20 ?_
    obtain ⟨r5, hC6, hF⟩ := q_b1_e hF
    refine q_calll hM (c_X7_falses l D cI cJ g ad _ _ _ hC6) hP hD hS ky_X7_falses ml_X7_179 rfl rfl ⟨Nat.le_of_ble_eq_true rfl, Nat.le_of_ble_eq_true rfl⟩ 0 rfl rfl rfl hl.1 rfl (Nat.le_of_ble_eq_true rfl) ⟨Nat.zero_le _, Nat.zero_le _⟩ dX7_odds_21 (fun H locs hP hD hS => ?_)
    refine lv_lstore_n (lv' := [(2, .long r5), (0, .ref (ad 0)), (1, .int a1)]) hx hb dX7_odds_24 rfl hl (by decide) rfl (fun ls hl => ?_)
    refine lv_aload_n hx hb dX7_odds_25 rfl (lv_at hl 1 rfl) ?_
    obtain ⟨r7, hC8, hF⟩ := q_b1_e hF
    refine q_calll hM (c_X7_allWays l D cI cJ g ad _ _ hC8) hP hD hS ky_X7_allWays ml_X7_183 rfl rfl ⟨Nat.le_of_ble_eq_true rfl, Nat.le_of_ble_eq_true rfl⟩ 0 rfl rfl rfl hl.1 rfl (Nat.le_of_ble_eq_true rfl) ⟨Nat.zero_le _, Nat.zero_le _⟩ dX7_odds_26 (fun H locs hP hD hS => ?_)
    refine lv_lstore (lv' := [(4, .long r7), (2, .long r5), (0, .ref (ad 0)), (1, .int a1)]) hx hb dX7_odds_29 hl (by decide) rfl (fun ls hl => ?_)
    refine lv_lload_n hx hb dX7_odds_31 rfl (lv_at hl 1 rfl) ?_
    refine lv_lload hx hb dX7_odds_32 (lv_at hl 0 rfl) ?_
    obtain ⟨r9, hC10, hF⟩ := q_b1_e hF
    refine q_calllS hM (c_X7_common l D cI cJ g (q_WM cI ad x) _ _ _ hC10) hP hD hS ky_X7_common ml_X7_187 rfl rfl ⟨Nat.le_of_ble_eq_true rfl, Nat.le_of_ble_eq_true rfl⟩ rfl hl.1 rfl (Nat.le_of_ble_eq_true rfl) ⟨Nat.zero_le _, Nat.zero_le _⟩ dX7_odds_34 (fun H locs hP hD hS => ?_)
    refine lv_lstore (lv' := [(6, .long r9), (4, .long r7), (2, .long r5), (0, .ref (ad 0)), (1, .int a1)]) hx hb dX7_odds_37 hl (by decide) rfl (fun ls hl => ?_)
    refine lv_iload_n hx hb dX7_odds_39 rfl (lv_at hl 4 rfl) ?_
    refine lv_if_ne (tgt := 50) hx hb dX7_odds_40 (by decide) (fun c11 => ?_) (fun c11 => ?_)
    · have hF := q_ie hF c11
      refine lv_lload hx hb dX7_odds_50 (lv_at hl 1 rfl) ?_
      refine lv_lload hx hb dX7_odds_52 (lv_at hl 0 rfl) ?_
      obtain ⟨h12, hF⟩ := q_gd_e hF
      refine lv_ldiv hx hb dX7_odds_54 h12 ?_
      exact hRet (r7 / r9) _ _ _ _ hF dX7_odds_55 hP hD hS
    · have hF := q_it hF c11
      refine lv_lload_n hx hb dX7_odds_43 rfl (lv_at hl 2 rfl) ?_
      refine lv_lload hx hb dX7_odds_44 (lv_at hl 0 rfl) ?_
      obtain ⟨h13, hF⟩ := q_gd_e hF
      refine lv_ldiv hx hb dX7_odds_46 h13 ?_
      refine lv_goto (tgt := 55) hx hb dX7_odds_47 (by decide) ?_
      exact hRet (r5 / r9) _ _ _ _ hF dX7_odds_55 hP hD hS
  · have hF := q_it hF c4
    refine lv_ldc2 hx hb hM.1.2.2.2.1 (hM.1.2.2.2.2 _ kl_X7_177) dX7_odds_9 ?_
    exact hRet (-1 : Int64) _ _ _ _ hF dX7_odds_12 hP hD hS
theorem ky_X7_isNoMore : q_YS yX7_isNoMore cX7_isNoMore 21 (some .boolean) 4 := ⟨cw_X7_isNoMore, st_X7_isNoMore, in_X7, by decide +kernel⟩
set_option maxHeartbeats 4000000 in
set_option maxRecDepth 100000 in
theorem c_X7_isNoMore (l : Launch) (D : va_G) (cI cJ : ClassId) (g : Nat → Nat) (w : va_W) (a1 : Int64) (a2 : Int64) (a3 : Int64) (a4 : Int64) (res : Int32) (hF : f_X7_isNoMore a1 a2 a3 a4 = some res) : q_Mi l yX7_isNoMore cX7_isNoMore 21 .boolean { frames := 0, cells := 0, slots := 0, locals := 0 } D cI cJ g w [.long a1, .long a2, .long a3, .long a4] (res) w := by
  refine q_ofi (res := res) (fun u : Int32 => u) (fun _ : Int32 => w) pl_X7 (Nat.le_of_ble_eq_true rfl) ?_
  intro p e s m args below meth c A Q hM hRet ls hl hP hD hS
  have hx := hM.1.1
  have hb := hM.1.2.1
  have hl : lv_has ls 21 [(0, .long a1), (2, .long a2), (4, .long a3), (6, .long a4)] := hl
  unfold f_X7_isNoMore at hF
  refine lv_lload_n hx hb dX7_isNoMore_0 rfl (lv_at hl 0 rfl) ?_
  refine lv_lstore (lv' := [(8, .long a1), (0, .long a1), (2, .long a2), (4, .long a3), (6, .long a4)]) hx hb dX7_isNoMore_1 hl (by decide) rfl (fun ls hl => ?_)
  refine lv_lload_n hx hb dX7_isNoMore_3 rfl (lv_at hl 2 rfl) ?_
  refine lv_lstore (lv' := [(10, .long a2), (8, .long a1), (0, .long a1), (2, .long a2), (4, .long a3), (6, .long a4)]) hx hb dX7_isNoMore_4 hl (by decide) rfl (fun ls hl => ?_)
  refine lv_lload hx hb dX7_isNoMore_6 (lv_at hl 4 rfl) ?_
  refine lv_lstore (lv' := [(12, .long a3), (10, .long a2), (8, .long a1), (0, .long a1), (2, .long a2), (4, .long a3), (6, .long a4)]) hx hb dX7_isNoMore_8 hl (by decide) rfl (fun ls hl => ?_)
  refine lv_lload hx hb dX7_isNoMore_10 (lv_at hl 6 rfl) ?_
  refine lv_lstore (lv' := [(14, .long a4), (12, .long a3), (10, .long a2), (8, .long a1), (0, .long a1), (2, .long a2), (4, .long a3), (6, .long a4)]) hx hb dX7_isNoMore_12 hl (by decide) rfl (fun ls hl => ?_)
  refine lv_iconst (v := 1) hx hb dX7_isNoMore_14 (by decide) ?_
  refine lv_istore (lv' := [(16, .int (1 : Int32)), (14, .long a4), (12, .long a3), (10, .long a2), (8, .long a1), (0, .long a1), (2, .long a2), (4, .long a3), (6, .long a4)]) hx hb dX7_isNoMore_15 hl (by decide) rfl (fun ls hl => ?_)
  have L17 : ∀ (k : Int64 → Int64 → Int32 → Option (Int32)) (n : Nat) (v1 : Int64) (v2 : Int64) (v3 : Int64) (v4 : Int64) (v5 : Int32) (H : Heap) (locs : List Loc) (ls : Array Slot), lv_has ls 21 [(8, .long v1), (10, .long v2), (12, .long v3), (14, .long v4), (16, .int v5)] → va_P D vwCl w H → va_D A w → va_S A s.heap H locs → (∀ (e6 : Int64) (e7 : Int64) (e8 : Int32) (H : Heap) (locs : List Loc) (ls : Array Slot), lv_has ls 21 [(10, .long e6), (14, .long e7), (16, .int e8)] → va_P D vwCl w H → va_D A w → va_S A s.heap H locs → k e6 e7 e8 = some res → W p l e { frames := 0, cells := 0, slots := 0, locals := 0 } s m args below meth c H locs 0 0 Q (F0 m 120 ls [])) → f_X7_isNoMore_L17 k n v1 v2 v3 v4 v5 = some res → W p l e { frames := 0, cells := 0, slots := 0, locals := 0 } s m args below meth c H locs 0 0 Q (F0 m 17 ls []) := by
    intro k n
    induction n with
    | zero => intro v1 v2 v3 v4 v5 H locs ls hl hP hD hS hk hF; exact q_no hF
    | succ n ih =>
      intro v1 v2 v3 v4 v5 H locs ls hl hP hD hS hk hF
      have hF : f_X7_isNoMore_L17F k (f_X7_isNoMore_L17 k n) v1 v2 v3 v4 v5 = some res := hF
      unfold f_X7_isNoMore_L17F at hF
      refine lv_lload hx hb dX7_isNoMore_17 (lv_at hl 1 rfl) ?_
      refine lv_lconst (v := 0) hx hb dX7_isNoMore_19 (by decide) ?_
      refine W.lcmp hx hb dX7_isNoMore_20 ?_
      refine lv_if_eq (tgt := 120) hx hb dX7_isNoMore_21 (by decide) (fun c9 => ?_) (fun c9 => ?_)
      · have hF := q_it hF c9
        exact hk _ _ _ _ _ _ (lv_sub hl [1, 3, 4] rfl) hP hD hS hF
      · have hF := q_ie hF c9
        refine lv_lload hx hb dX7_isNoMore_24 (lv_at hl 3 rfl) ?_
        refine lv_lconst (v := 0) hx hb dX7_isNoMore_26 (by decide) ?_
        refine W.lcmp hx hb dX7_isNoMore_27 ?_
        refine lv_if_eq (tgt := 120) hx hb dX7_isNoMore_28 (by decide) (fun c10 => ?_) (fun c10 => ?_)
        · have hF := q_it hF c10
          exact hk _ _ _ _ _ _ (lv_sub hl [1, 3, 4] rfl) hP hD hS hF
        · have hF := q_ie hF c10
          refine lv_lload hx hb dX7_isNoMore_31 (lv_at hl 0 rfl) ?_
          refine lv_lload hx hb dX7_isNoMore_33 (lv_at hl 1 rfl) ?_
          obtain ⟨h11, hF⟩ := q_gd_e hF
          refine lv_ldiv hx hb dX7_isNoMore_35 h11 ?_
          refine lv_lload hx hb dX7_isNoMore_36 (lv_at hl 2 rfl) ?_
          refine lv_lload hx hb dX7_isNoMore_38 (lv_at hl 3 rfl) ?_
          obtain ⟨h12, hF⟩ := q_gd_e hF
          refine lv_ldiv hx hb dX7_isNoMore_40 h12 ?_
          refine W.lcmp hx hb dX7_isNoMore_41 ?_
          refine lv_if_eq (tgt := 75) hx hb dX7_isNoMore_42 (by decide) (fun c13 => ?_) (fun c13 => ?_)
          · have hF := q_it hF c13
            refine lv_lload hx hb dX7_isNoMore_75 (lv_at hl 0 rfl) ?_
            refine lv_lload hx hb dX7_isNoMore_77 (lv_at hl 1 rfl) ?_
            obtain ⟨h14, hF⟩ := q_gd_e hF
            refine lv_lrem hx hb dX7_isNoMore_79 h14 ?_
            refine lv_topl (fun v15 ev15 => ?_)
            have hF := q_let_e hF ev15
            refine lv_lstore (lv' := [(17, .long v15), (8, .long v1), (10, .long v2), (12, .long v3), (14, .long v4), (16, .int v5)]) hx hb dX7_isNoMore_80 hl (by decide) rfl (fun ls hl => ?_)
            refine lv_lload hx hb dX7_isNoMore_82 (lv_at hl 3 rfl) ?_
            refine lv_lload hx hb dX7_isNoMore_84 (lv_at hl 4 rfl) ?_
            obtain ⟨h16, hF⟩ := q_gd_e hF
            refine lv_lrem hx hb dX7_isNoMore_86 h16 ?_
            refine lv_topl (fun v17 ev17 => ?_)
            have hF := q_let_e hF ev17
            refine lv_lstore (lv' := [(19, .long v17), (17, .long v15), (8, .long v1), (10, .long v2), (12, .long v3), (14, .long v4), (16, .int v5)]) hx hb dX7_isNoMore_87 hl (by decide) rfl (fun ls hl => ?_)
            refine lv_lload hx hb dX7_isNoMore_89 (lv_at hl 3 rfl) ?_
            refine lv_lstore (lv' := [(8, .long v2), (19, .long v17), (17, .long v15), (10, .long v2), (12, .long v3), (14, .long v4), (16, .int v5)]) hx hb dX7_isNoMore_91 hl (by decide) rfl (fun ls hl => ?_)
            refine lv_lload hx hb dX7_isNoMore_93 (lv_at hl 2 rfl) ?_
            refine lv_lstore (lv' := [(10, .long v15), (8, .long v2), (19, .long v17), (17, .long v15), (12, .long v3), (14, .long v4), (16, .int v5)]) hx hb dX7_isNoMore_95 hl (by decide) rfl (fun ls hl => ?_)
            refine lv_lload hx hb dX7_isNoMore_97 (lv_at hl 5 rfl) ?_
            refine lv_lstore (lv' := [(12, .long v4), (10, .long v15), (8, .long v2), (19, .long v17), (17, .long v15), (14, .long v4), (16, .int v5)]) hx hb dX7_isNoMore_99 hl (by decide) rfl (fun ls hl => ?_)
            refine lv_lload hx hb dX7_isNoMore_101 (lv_at hl 3 rfl) ?_
            refine lv_lstore (lv' := [(14, .long v17), (12, .long v4), (10, .long v15), (8, .long v2), (19, .long v17), (17, .long v15), (16, .int v5)]) hx hb dX7_isNoMore_103 hl (by decide) rfl (fun ls hl => ?_)
            refine lv_iload hx hb dX7_isNoMore_105 (lv_at hl 6 rfl) ?_
            obtain ⟨J115, hJ115, hF⟩ := q_jn_e hF
            have K115 : ∀ (t19 : Int32) (H : Heap) (locs : List Loc) (ls : Array Slot), lv_has ls 21 [(8, .long v2), (10, .long v15), (12, .long v4), (14, .long v17)] → va_P D vwCl w H → va_D A w → va_S A s.heap H locs → J115 t19 = some res → W p l e { frames := 0, cells := 0, slots := 0, locals := 0 } s m args below meth c H locs 0 0 Q (F0 m 115 ls [.int t19]) := by
              clear hF; intro t19 H locs ls hl hP hD hS hF
              rw [hJ115] at hF
              try dsimp only at hF
              refine lv_istore (lv' := [(16, .int t19), (8, .long v2), (10, .long v15), (12, .long v4), (14, .long v17)]) hx hb dX7_isNoMore_115 hl (by decide) rfl (fun ls hl => ?_)
              refine lv_goto (tgt := 17) hx hb dX7_isNoMore_117 (by decide) ?_
              exact ih _ _ _ _ _ _ _ _ (lv_sub hl [1, 2, 3, 4, 0] rfl) hP hD hS hk hF
            refine lv_if_ne (tgt := 114) hx hb dX7_isNoMore_107 (by decide) (fun c18 => ?_) (fun c18 => ?_)
            · have hF := q_ie hF c18
              refine lv_iconst (v := 0) hx hb dX7_isNoMore_114 (by decide) ?_
              exact K115 _ _ _ _ (lv_sub hl [3, 2, 1, 0] rfl) hP hD hS hF
            · have hF := q_it hF c18
              refine lv_iconst (v := 1) hx hb dX7_isNoMore_110 (by decide) ?_
              refine lv_goto (tgt := 115) hx hb dX7_isNoMore_111 (by decide) ?_
              exact K115 _ _ _ _ (lv_sub hl [3, 2, 1, 0] rfl) hP hD hS hF
          · have hF := q_ie hF c13
            refine lv_lload hx hb dX7_isNoMore_45 (lv_at hl 0 rfl) ?_
            refine lv_lload hx hb dX7_isNoMore_47 (lv_at hl 1 rfl) ?_
            obtain ⟨h20, hF⟩ := q_gd_e hF
            refine lv_ldiv hx hb dX7_isNoMore_49 h20 ?_
            refine lv_lload hx hb dX7_isNoMore_50 (lv_at hl 2 rfl) ?_
            refine lv_lload hx hb dX7_isNoMore_52 (lv_at hl 3 rfl) ?_
            obtain ⟨h21, hF⟩ := q_gd_e hF
            refine lv_ldiv hx hb dX7_isNoMore_54 h21 ?_
            refine W.lcmp hx hb dX7_isNoMore_55 ?_
            obtain ⟨J64, hJ64, hF⟩ := q_jn_e hF
            have K64 : ∀ (t23 : Int32) (H : Heap) (locs : List Loc) (ls : Array Slot), lv_has ls 21 [(16, .int v5)] → va_P D vwCl w H → va_D A w → va_S A s.heap H locs → J64 t23 = some res → W p l e { frames := 0, cells := 0, slots := 0, locals := 0 } s m args below meth c H locs 0 0 Q (F0 m 64 ls [.int t23]) := by
              clear hF; intro t23 H locs ls hl hP hD hS hF
              rw [hJ64] at hF
              try dsimp only at hF
              refine lv_iload hx hb dX7_isNoMore_64 (lv_at hl 0 rfl) ?_
              refine lv_icmp_ne (tgt := 73) hx hb dX7_isNoMore_66 (by decide) (fun c24 => ?_) (fun c24 => ?_)
              · have hF := q_ie hF c24
                refine lv_iconst (v := 0) hx hb dX7_isNoMore_73 (by decide) ?_
                exact hRet (0 : Int32) _ _ _ _ hF narrow_b0 dX7_isNoMore_74 hP hD hS
              · have hF := q_it hF c24
                refine lv_iconst (v := 1) hx hb dX7_isNoMore_69 (by decide) ?_
                refine lv_goto (tgt := 74) hx hb dX7_isNoMore_70 (by decide) ?_
                exact hRet (1 : Int32) _ _ _ _ hF narrow_b1 dX7_isNoMore_74 hP hD hS
            refine lv_if_ge (tgt := 63) hx hb dX7_isNoMore_56 (by decide) (fun c22 => ?_) (fun c22 => ?_)
            · have hF := q_it hF c22
              refine lv_iconst (v := 0) hx hb dX7_isNoMore_63 (by decide) ?_
              exact K64 _ _ _ _ (lv_sub hl [4] rfl) hP hD hS hF
            · have hF := q_ie hF c22
              refine lv_iconst (v := 1) hx hb dX7_isNoMore_59 (by decide) ?_
              refine lv_goto (tgt := 64) hx hb dX7_isNoMore_60 (by decide) ?_
              exact K64 _ _ _ _ (lv_sub hl [4] rfl) hP hD hS hF
  refine L17 _ _ _ _ _ _ _ _ _ _ (lv_sub hl [4, 3, 2, 1, 0] rfl) hP hD hS ?_ hF
  clear hF
  intro e6 e7 e8 H locs ls hl hP hD hS hF
  refine lv_lload hx hb dX7_isNoMore_120 (lv_at hl 0 rfl) ?_
  refine lv_lconst (v := 0) hx hb dX7_isNoMore_122 (by decide) ?_
  refine W.lcmp hx hb dX7_isNoMore_123 ?_
  obtain ⟨J134, hJ134, hF⟩ := q_jn_e hF
  have K134 : ∀ (H : Heap) (locs : List Loc) (ls : Array Slot), lv_has ls 21 [(10, .long e6), (16, .int e8)] → va_P D vwCl w H → va_D A w → va_S A s.heap H locs → J134 = some res → W p l e { frames := 0, cells := 0, slots := 0, locals := 0 } s m args below meth c H locs 0 0 Q (F0 m 134 ls []) := by
    clear hF; intro H locs ls hl hP hD hS hF
    rw [hJ134] at hF
    refine lv_lload hx hb dX7_isNoMore_134 (lv_at hl 0 rfl) ?_
    refine lv_lconst (v := 0) hx hb dX7_isNoMore_136 (by decide) ?_
    refine W.lcmp hx hb dX7_isNoMore_137 ?_
    obtain ⟨J146, hJ146, hF⟩ := q_jn_e hF
    have K146 : ∀ (t28 : Int32) (H : Heap) (locs : List Loc) (ls : Array Slot), lv_has ls 21 [(16, .int e8)] → va_P D vwCl w H → va_D A w → va_S A s.heap H locs → J146 t28 = some res → W p l e { frames := 0, cells := 0, slots := 0, locals := 0 } s m args below meth c H locs 0 0 Q (F0 m 146 ls [.int t28]) := by
      clear hF; intro t28 H locs ls hl hP hD hS hF
      rw [hJ146] at hF
      try dsimp only at hF
      refine lv_iload hx hb dX7_isNoMore_146 (lv_at hl 0 rfl) ?_
      refine lv_icmp_eq (tgt := 155) hx hb dX7_isNoMore_148 (by decide) (fun c29 => ?_) (fun c29 => ?_)
      · have hF := q_it hF c29
        refine lv_iconst (v := 0) hx hb dX7_isNoMore_155 (by decide) ?_
        exact hRet (0 : Int32) _ _ _ _ hF narrow_b0 dX7_isNoMore_156 hP hD hS
      · have hF := q_ie hF c29
        refine lv_iconst (v := 1) hx hb dX7_isNoMore_151 (by decide) ?_
        refine lv_goto (tgt := 156) hx hb dX7_isNoMore_152 (by decide) ?_
        exact hRet (1 : Int32) _ _ _ _ hF narrow_b1 dX7_isNoMore_156 hP hD hS
    refine lv_if_ne (tgt := 145) hx hb dX7_isNoMore_138 (by decide) (fun c27 => ?_) (fun c27 => ?_)
    · have hF := q_ie hF c27
      refine lv_iconst (v := 0) hx hb dX7_isNoMore_145 (by decide) ?_
      exact K146 _ _ _ _ (lv_sub hl [1] rfl) hP hD hS hF
    · have hF := q_it hF c27
      refine lv_iconst (v := 1) hx hb dX7_isNoMore_141 (by decide) ?_
      refine lv_goto (tgt := 146) hx hb dX7_isNoMore_142 (by decide) ?_
      exact K146 _ _ _ _ (lv_sub hl [1] rfl) hP hD hS hF
  refine lv_if_ne (tgt := 134) hx hb dX7_isNoMore_124 (by decide) (fun c25 => ?_) (fun c25 => ?_)
  · have hF := q_ie hF c25
    exact K134 _ _ _ (lv_sub hl [0, 2] rfl) hP hD hS hF
  · have hF := q_it hF c25
    refine lv_lload hx hb dX7_isNoMore_127 (lv_at hl 1 rfl) ?_
    refine lv_lconst (v := 0) hx hb dX7_isNoMore_129 (by decide) ?_
    refine W.lcmp hx hb dX7_isNoMore_130 ?_
    refine lv_if_eq (tgt := 151) hx hb dX7_isNoMore_131 (by decide) (fun c26 => ?_) (fun c26 => ?_)
    · have hF := q_it hF c26
      refine lv_iconst (v := 1) hx hb dX7_isNoMore_151 (by decide) ?_
      refine lv_goto (tgt := 156) hx hb dX7_isNoMore_152 (by decide) ?_
      exact hRet (1 : Int32) _ _ _ _ hF narrow_b1 dX7_isNoMore_156 hP hD hS
    · have hF := q_ie hF c26
      exact K134 _ _ _ (lv_sub hl [0, 2] rfl) hP hD hS hF
theorem ky_X7_factor : q_Y yX7_factor cX7_factor 4 (some .int) 2 := ⟨cw_X7_factor, im_X7_factor, se_X7_factor, in_X7, by decide +kernel⟩
set_option maxHeartbeats 4000000 in
set_option maxRecDepth 100000 in
theorem c_X7_factor (l : Launch) (D : va_G) (cI cJ : ClassId) (g : Nat → Nat) (ad : Nat → Nat) (x : IS) (a1 : Int32) (a2 : Int32) (res : Int32) (hF : f_X7_factor x a1 a2 = some res) : q_Mi l yX7_factor cX7_factor 4 .int { frames := 4, cells := 0, slots := 0, locals := 114 } D cI cJ g (q_WM cI ad x) [.ref (ad 0), .int a1, .int a2] (res) (q_WM cI ad x) := by
  refine q_ofi (res := res) (fun u : Int32 => u) (fun _ : Int32 => (q_WM cI ad x)) pl_X7 (Nat.le_of_ble_eq_true rfl) ?_
  intro p e s m args below meth c A Q hM hRet ls hl hP hD hS
  have hx := hM.1.1
  have hb := hM.1.2.1
  have hl : lv_has ls 4 [(0, .ref (ad 0)), (1, .int a1), (2, .int a2)] := hl
  unfold f_X7_factor at hF
  refine lv_iload_n hx hb dX7_factor_0 rfl (lv_at hl 1 rfl) ?_
  refine lv_iconst (v := 1) hx hb dX7_factor_1 (by decide) ?_
  refine lv_ldc hx hb hM.1.2.2.2.1 (hM.1.2.2.2.2 _ ki_X7_191) dX7_factor_2 ?_
  obtain ⟨r1, hC2, hF⟩ := q_b1_e hF
  refine q_calliS hM (c_X7_isIn l D cI cJ g (q_WM cI ad x) _ _ _ _ hC2) hP hD hS ky_X7_isIn ml_X7_76 rfl rfl ⟨Nat.le_of_ble_eq_true rfl, Nat.le_of_ble_eq_true rfl⟩ rfl hl.1 rfl (Nat.le_of_ble_eq_true rfl) ⟨Nat.zero_le _, Nat.zero_le _⟩ dX7_factor_4 (fun H locs hz3 hP hD hS => ?_)
  refine lv_if_eq (tgt := 20) hx hb dX7_factor_7 (by decide) (fun c4 => ?_) (fun c4 => ?_)
  · have hF := q_it hF c4
    refine lv_iconst (v := -1) hx hb dX7_factor_20 (by decide) ?_
    exact hRet (-1 : Int32) _ _ _ _ hF rfl dX7_factor_21 hP hD hS
  · have hF := q_ie hF c4
    refine lv_iload_n hx hb dX7_factor_10 rfl (lv_at hl 2 rfl) ?_
    refine lv_iconst (v := 1) hx hb dX7_factor_11 (by decide) ?_
    refine lv_ldc hx hb hM.1.2.2.2.1 (hM.1.2.2.2.2 _ ki_X7_191) dX7_factor_12 ?_
    obtain ⟨r5, hC6, hF⟩ := q_b1_e hF
    refine q_calliS hM (c_X7_isIn l D cI cJ g (q_WM cI ad x) _ _ _ _ hC6) hP hD hS ky_X7_isIn ml_X7_76 rfl rfl ⟨Nat.le_of_ble_eq_true rfl, Nat.le_of_ble_eq_true rfl⟩ rfl hl.1 rfl (Nat.le_of_ble_eq_true rfl) ⟨Nat.zero_le _, Nat.zero_le _⟩ dX7_factor_14 (fun H locs hz7 hP hD hS => ?_)
    refine lv_if_ne (tgt := 22) hx hb dX7_factor_17 (by decide) (fun c8 => ?_) (fun c8 => ?_)
    · have hF := q_ie hF c8
      refine lv_iconst (v := 1) hx hb dX7_factor_22 (by decide) ?_
      refine lv_istore_n (lv' := [(3, .int (1 : Int32)), (0, .ref (ad 0)), (1, .int a1), (2, .int a2)]) hx hb dX7_factor_23 rfl hl (by decide) rfl (fun ls hl => ?_)
      have L24 : ∀ (k : Option (Int32)) (n : Nat) (v9 : Int32) (H : Heap) (locs : List Loc) (ls : Array Slot), lv_has ls 4 [(0, .ref (ad 0)), (1, .int a1), (2, .int a2), (3, .int v9)] → va_P D vwCl (q_WM cI ad x) H → va_D A (q_WM cI ad x) → va_S A s.heap H locs → (∀ (H : Heap) (locs : List Loc) (ls : Array Slot), lv_has ls 4 [] → va_P D vwCl (q_WM cI ad x) H → va_D A (q_WM cI ad x) → va_S A s.heap H locs → k = some res → W p l e { frames := 4, cells := 0, slots := 0, locals := 114 } s m args below meth c H locs 0 0 Q (F0 m 57 ls [])) → f_X7_factor_L24 x a1 a2 k n v9 = some res → W p l e { frames := 4, cells := 0, slots := 0, locals := 114 } s m args below meth c H locs 0 0 Q (F0 m 24 ls []) := by
        intro k n
        induction n with
        | zero => intro v9 H locs ls hl hP hD hS hk hF; exact q_no hF
        | succ n ih =>
          intro v9 H locs ls hl hP hD hS hk hF
          have hF : f_X7_factor_L24F x a1 a2 k (f_X7_factor_L24 x a1 a2 k n) v9 = some res := hF
          unfold f_X7_factor_L24F at hF
          refine lv_iload_n hx hb dX7_factor_24 rfl (lv_at hl 3 rfl) ?_
          refine lv_bipush (v := 40) hx hb dX7_factor_25 (by decide) ?_
          refine lv_icmp_gt (tgt := 57) hx hb dX7_factor_27 (by decide) (fun c10 => ?_) (fun c10 => ?_)
          · have hF := q_it hF c10
            exact hk _ _ _ (lv_sub hl [] rfl) hP hD hS hF
          · have hF := q_ie hF c10
            refine lv_aload_n hx hb dX7_factor_30 rfl (lv_at hl 0 rfl) ?_
            refine lv_iload_n hx hb dX7_factor_31 rfl (lv_at hl 3 rfl) ?_
            obtain ⟨r11, hC12, hF⟩ := q_b1_e hF
            refine q_calll hM (c_X7_falses l D cI cJ g ad _ _ _ hC12) hP hD hS ky_X7_falses ml_X7_179 rfl rfl ⟨Nat.le_of_ble_eq_true rfl, Nat.le_of_ble_eq_true rfl⟩ 0 rfl rfl rfl hl.1 rfl (Nat.le_of_ble_eq_true rfl) ⟨Nat.zero_le _, Nat.zero_le _⟩ dX7_factor_32 (fun H locs hP hD hS => ?_)
            refine lv_aload_n hx hb dX7_factor_35 rfl (lv_at hl 0 rfl) ?_
            obtain ⟨r13, hC14, hF⟩ := q_b1_e hF
            refine q_calll hM (c_X7_allWays l D cI cJ g ad _ _ hC14) hP hD hS ky_X7_allWays ml_X7_183 rfl rfl ⟨Nat.le_of_ble_eq_true rfl, Nat.le_of_ble_eq_true rfl⟩ 0 rfl rfl rfl hl.1 rfl (Nat.le_of_ble_eq_true rfl) ⟨Nat.zero_le _, Nat.zero_le _⟩ dX7_factor_36 (fun H locs hP hD hS => ?_)
            refine lv_iload_n hx hb dX7_factor_39 rfl (lv_at hl 1 rfl) ?_
            refine lv_i2l hx hb dX7_factor_40 rfl ?_
            refine lv_iload_n hx hb dX7_factor_41 rfl (lv_at hl 2 rfl) ?_
            refine lv_i2l hx hb dX7_factor_42 rfl ?_
            obtain ⟨r15, hC16, hF⟩ := q_b1_e hF
            refine q_calliS hM (c_X7_isNoMore l D cI cJ g (q_WM cI ad x) _ _ _ _ _ hC16) hP hD hS ky_X7_isNoMore ml_X7_192 rfl rfl ⟨Nat.le_of_ble_eq_true rfl, Nat.le_of_ble_eq_true rfl⟩ rfl hl.1 rfl (Nat.le_of_ble_eq_true rfl) ⟨Nat.zero_le _, Nat.zero_le _⟩ dX7_factor_43 (fun H locs hz17 hP hD hS => ?_)
            refine lv_if_eq (tgt := 51) hx hb dX7_factor_46 (by decide) (fun c18 => ?_) (fun c18 => ?_)
            · have hF := q_it hF c18
              obtain ⟨v19, ev19⟩ : ∃ y : Int32, y = v9 + 1 := ⟨_, rfl⟩
              have hF := q_let_e hF ev19
              refine lv_iinc (v := v19) (lv' := [(3, .int v19), (0, .ref (ad 0)), (1, .int a1), (2, .int a2)]) hx hb dX7_factor_51 hl (k := 3) rfl (by rw [ev19]; rfl) (by decide) rfl (fun ls hl => ?_)
              refine lv_goto (tgt := 24) hx hb dX7_factor_54 (by decide) ?_
              exact ih _ _ _ _ (lv_sub hl [1, 2, 3, 0] rfl) hP hD hS hk hF
            · have hF := q_ie hF c18
              refine lv_iload_n hx hb dX7_factor_49 rfl (lv_at hl 3 rfl) ?_
              exact hRet v9 _ _ _ _ hF rfl dX7_factor_50 hP hD hS
      refine L24 _ _ _ _ _ _ (lv_sub hl [1, 2, 3, 0] rfl) hP hD hS ?_ hF
      clear hF
      intro H locs ls hl hP hD hS hF
      refine lv_bipush (v := -4) hx hb dX7_factor_57 (by decide) ?_
      exact hRet (-4 : Int32) _ _ _ _ hF rfl dX7_factor_59 hP hD hS
    · have hF := q_it hF c8
      refine lv_iconst (v := -1) hx hb dX7_factor_20 (by decide) ?_
      exact hRet (-1 : Int32) _ _ _ _ hF rfl dX7_factor_21 hP hD hS
theorem ky_X7_figure : q_YS yX7_figure cX7_figure 2 (some .int) 2 := ⟨cw_X7_figure, st_X7_figure, in_X7, by decide +kernel⟩
set_option maxHeartbeats 4000000 in
set_option maxRecDepth 100000 in
theorem c_X7_figure (l : Launch) (D : va_G) (cI cJ : ClassId) (g : Nat → Nat) (w : va_W) (a1 : Int32) (a2 : Int32) (res : Int32) (hF : f_X7_figure a1 a2 = some res) : q_Mi l yX7_figure cX7_figure 2 .int { frames := 0, cells := 0, slots := 0, locals := 0 } D cI cJ g w [.int a1, .int a2] (res) w := by
  refine q_ofi (res := res) (fun u : Int32 => u) (fun _ : Int32 => w) pl_X7 (Nat.le_of_ble_eq_true rfl) ?_
  intro p e s m args below meth c A Q hM hRet ls hl hP hD hS
  have hx := hM.1.1
  have hb := hM.1.2.1
  have hl : lv_has ls 2 [(0, .int a1), (1, .int a2)] := hl
  unfold f_X7_figure at hF
  refine lv_iload_n hx hb dX7_figure_0 rfl (lv_at hl 0 rfl) ?_
  refine lv_bipush (v := 10) hx hb dX7_figure_1 (by decide) ?_
  refine lv_icmp_ge (tgt := 22) hx hb dX7_figure_3 (by decide) (fun c1 => ?_) (fun c1 => ?_)
  · have hF := q_it hF c1
    refine lv_iload_n hx hb dX7_figure_22 rfl (lv_at hl 1 rfl) ?_
    refine lv_if_ne (tgt := 36) hx hb dX7_figure_23 (by decide) (fun c2 => ?_) (fun c2 => ?_)
    · have hF := q_ie hF c2
      refine lv_iload_n hx hb dX7_figure_36 rfl (lv_at hl 1 rfl) ?_
      refine lv_iconst (v := 1) hx hb dX7_figure_37 (by decide) ?_
      refine lv_icmp_ne (tgt := 51) hx hb dX7_figure_38 (by decide) (fun c3 => ?_) (fun c3 => ?_)
      · have hF := q_ie hF c3
        refine lv_bipush (v := -4) hx hb dX7_figure_51 (by decide) ?_
        exact hRet (-4 : Int32) _ _ _ _ hF rfl dX7_figure_53 hP hD hS
      · have hF := q_it hF c3
        refine lv_bipush (v := 48) hx hb dX7_figure_41 (by decide) ?_
        refine lv_iload_n hx hb dX7_figure_43 rfl (lv_at hl 0 rfl) ?_
        refine lv_bipush (v := 10) hx hb dX7_figure_44 (by decide) ?_
        refine lv_irem hx hb dX7_figure_46 (by decide) ?_
        refine lv_iadd hx hb dX7_figure_47 ?_
        refine lv_goto (tgt := 53) hx hb dX7_figure_48 (by decide) ?_
        exact hRet ((48 : Int32) + (a1 - a1 / (10 : Int32) * (10 : Int32))) _ _ _ _ hF rfl dX7_figure_53 hP hD hS
    · have hF := q_it hF c2
      refine lv_bipush (v := 48) hx hb dX7_figure_26 (by decide) ?_
      refine lv_iload_n hx hb dX7_figure_28 rfl (lv_at hl 0 rfl) ?_
      refine lv_bipush (v := 10) hx hb dX7_figure_29 (by decide) ?_
      refine lv_idiv hx hb dX7_figure_31 (by decide) ?_
      refine lv_iadd hx hb dX7_figure_32 ?_
      refine lv_goto (tgt := 53) hx hb dX7_figure_33 (by decide) ?_
      exact hRet ((48 : Int32) + (a1 / (10 : Int32))) _ _ _ _ hF rfl dX7_figure_53 hP hD hS
  · have hF := q_ie hF c1
    refine lv_iload_n hx hb dX7_figure_6 rfl (lv_at hl 1 rfl) ?_
    refine lv_if_ne (tgt := 17) hx hb dX7_figure_7 (by decide) (fun c4 => ?_) (fun c4 => ?_)
    · have hF := q_ie hF c4
      refine lv_bipush (v := -4) hx hb dX7_figure_17 (by decide) ?_
      refine lv_goto (tgt := 53) hx hb dX7_figure_19 (by decide) ?_
      exact hRet (-4 : Int32) _ _ _ _ hF rfl dX7_figure_53 hP hD hS
    · have hF := q_it hF c4
      refine lv_bipush (v := 48) hx hb dX7_figure_10 (by decide) ?_
      refine lv_iload_n hx hb dX7_figure_12 rfl (lv_at hl 0 rfl) ?_
      refine lv_iadd hx hb dX7_figure_13 ?_
      refine lv_goto (tgt := 53) hx hb dX7_figure_14 (by decide) ?_
      exact hRet ((48 : Int32) + a1) _ _ _ _ hF rfl dX7_figure_53 hP hD hS
theorem ky_X7_sign : q_Y yX7_sign cX7_sign 2 (some .int) 1 := ⟨cw_X7_sign, im_X7_sign, se_X7_sign, in_X7, by decide +kernel⟩
set_option maxHeartbeats 4000000 in
set_option maxRecDepth 100000 in
theorem c_X7_sign (l : Launch) (D : va_G) (cI cJ : ClassId) (g : Nat → Nat) (ad : Nat → Nat) (x : IS) (a1 : Int32) (res : Int32 × IS) (hF : f_X7_sign x a1 = some res) : q_Mi l yX7_sign cX7_sign 2 .int { frames := 7, cells := 0, slots := 0, locals := 162 } D cI cJ g (q_WM cI ad x) [.ref (ad 0), .int a1] (res.1) (q_WM cI ad (res.2)) := by
  refine q_ofi (res := res) (fun u : Int32 × IS => u.1) (fun u : Int32 × IS => (q_WM cI ad (u.2))) pl_X7 (Nat.le_of_ble_eq_true rfl) ?_
  intro p e s m args below meth c A Q hM hRet ls hl hP hD hS
  have hx := hM.1.1
  have hb := hM.1.2.1
  have hl : lv_has ls 2 [(0, .ref (ad 0)), (1, .int a1)] := hl
  unfold f_X7_sign at hF
  refine lv_aload_n hx hb dX7_sign_0 rfl (lv_at hl 0 rfl) ?_
  refine qg_M_X7_now hM hP fl_X7_16 dX7_sign_1 ?_
  refine lv_bipush (v := 48) hx hb dX7_sign_4 (by decide) ?_
  refine lv_iload_n hx hb dX7_sign_6 rfl (lv_at hl 1 rfl) ?_
  refine lv_iadd hx hb dX7_sign_7 ?_
  obtain ⟨h1, hF⟩ := q_gd_e hF
  refine ql_M_X7_now hM hP h1 dX7_sign_8 ?_
  refine lv_iconst (v := 1) hx hb dX7_sign_9 (by decide) ?_
  refine lv_icmp_ne (tgt := 16) hx hb dX7_sign_10 (by decide) (fun c2 => ?_) (fun c2 => ?_)
  · have hF := q_ie hF c2
    refine lv_aload_n hx hb dX7_sign_16 rfl (lv_at hl 0 rfl) ?_
    refine lv_iload_n hx hb dX7_sign_17 rfl (lv_at hl 1 rfl) ?_
    obtain ⟨r3, x4, hC5, hF⟩ := q_b2_e hF
    refine q_calli hM (c_X7_isAlarm l D cI cJ g ad _ _ _ hC5) hP hD hS ky_X7_isAlarm ml_X7_133 rfl rfl ⟨Nat.le_of_ble_eq_true rfl, Nat.le_of_ble_eq_true rfl⟩ 0 rfl rfl rfl hl.1 rfl (Nat.le_of_ble_eq_true rfl) ⟨Nat.zero_le _, Nat.zero_le _⟩ dX7_sign_18 (fun H locs hz6 hP hD hS => ?_)
    refine lv_if_ne (tgt := 29) hx hb dX7_sign_21 (by decide) (fun c7 => ?_) (fun c7 => ?_)
    · have hF := q_ie hF c7
      refine lv_aload_n hx hb dX7_sign_29 rfl (lv_at hl 0 rfl) ?_
      refine lv_aload_n hx hb dX7_sign_30 rfl (lv_at hl 0 rfl) ?_
      refine lv_aload_n hx hb dX7_sign_31 rfl (lv_at hl 0 rfl) ?_
      refine lv_iload_n hx hb dX7_sign_32 rfl (lv_at hl 1 rfl) ?_
      obtain ⟨r8, x9, hC10, hF⟩ := q_b2_e hF
      refine q_calli hM (c_X7_bunchesTo l D cI cJ g ad _ _ _ hC10) hP hD hS ky_X7_bunchesTo ml_X7_136 rfl rfl ⟨Nat.le_of_ble_eq_true rfl, Nat.le_of_ble_eq_true rfl⟩ 0 rfl rfl rfl hl.1 rfl (Nat.le_of_ble_eq_true rfl) ⟨Nat.zero_le _, Nat.zero_le _⟩ dX7_sign_33 (fun H locs hz11 hP hD hS => ?_)
      obtain ⟨r12, x13, hC14, hF⟩ := q_b2_e hF
      refine q_calli hM (c_X7_firstOf l D cI cJ g ad _ _ _ hC14) hP hD hS ky_X7_firstOf ml_X7_149 rfl rfl ⟨Nat.le_of_ble_eq_true rfl, Nat.le_of_ble_eq_true rfl⟩ 0 rfl rfl rfl hl.1 rfl (Nat.le_of_ble_eq_true rfl) ⟨Nat.zero_le _, Nat.zero_le _⟩ dX7_sign_36 (fun H locs hz15 hP hD hS => ?_)
      obtain ⟨r16, x17, hC18, hF⟩ := q_b2_e hF
      refine q_calli hM (c_X7_peak l D cI cJ g ad _ _ _ hC18) hP hD hS ky_X7_peak ml_X7_152 rfl rfl ⟨Nat.le_of_ble_eq_true rfl, Nat.le_of_ble_eq_true rfl⟩ 0 rfl rfl rfl hl.1 rfl (Nat.le_of_ble_eq_true rfl) ⟨Nat.zero_le _, Nat.zero_le _⟩ dX7_sign_39 (fun H locs hz19 hP hD hS => ?_)
      refine lv_iload_n hx hb dX7_sign_42 rfl (lv_at hl 1 rfl) ?_
      refine lv_icmp_ne (tgt := 51) hx hb dX7_sign_43 (by decide) (fun c20 => ?_) (fun c20 => ?_)
      · have hF := q_ie hF c20
        refine lv_bipush (v := 33) hx hb dX7_sign_51 (by decide) ?_
        exact hRet ((33 : Int32), x17) _ _ _ _ hF rfl dX7_sign_53 hP hD hS
      · have hF := q_it hF c20
        refine lv_bipush (v := 94) hx hb dX7_sign_46 (by decide) ?_
        refine lv_goto (tgt := 53) hx hb dX7_sign_48 (by decide) ?_
        exact hRet ((94 : Int32), x17) _ _ _ _ hF rfl dX7_sign_53 hP hD hS
    · have hF := q_it hF c7
      refine lv_bipush (v := 46) hx hb dX7_sign_24 (by decide) ?_
      refine lv_goto (tgt := 53) hx hb dX7_sign_26 (by decide) ?_
      exact hRet ((46 : Int32), x4) _ _ _ _ hF rfl dX7_sign_53 hP hD hS
  · have hF := q_it hF c2
    refine lv_bipush (v := 120) hx hb dX7_sign_13 (by decide) ?_
    exact hRet ((120 : Int32), x) _ _ _ _ hF rfl dX7_sign_15 hP hD hS
theorem ky_X7_drawn : q_Y yX7_drawn cX7_drawn 5 (some .int) 1 := ⟨cw_X7_drawn, im_X7_drawn, se_X7_drawn, in_X7, by decide +kernel⟩
set_option maxHeartbeats 4000000 in
set_option maxRecDepth 100000 in
theorem c_X7_drawn (l : Launch) (D : va_G) (cI cJ : ClassId) (g : Nat → Nat) (ad : Nat → Nat) (x : IS) (a1 : Int32) (res : Int32 × IS) (hF : f_X7_drawn x a1 = some res) : q_Mi l yX7_drawn cX7_drawn 5 .int { frames := 8, cells := 0, slots := 0, locals := 183 } D cI cJ g (q_WM cI ad x) [.ref (ad 0), .int a1] (res.1) (q_WM cI ad (res.2)) := by
  refine q_ofi (res := res) (fun u : Int32 × IS => u.1) (fun u : Int32 × IS => (q_WM cI ad (u.2))) pl_X7 (Nat.le_of_ble_eq_true rfl) ?_
  intro p e s m args below meth c A Q hM hRet ls hl hP hD hS
  have hx := hM.1.1
  have hb := hM.1.2.1
  have hl : lv_has ls 5 [(0, .ref (ad 0)), (1, .int a1)] := hl
  unfold f_X7_drawn at hF
  refine lv_iload_n hx hb dX7_drawn_0 rfl (lv_at hl 1 rfl) ?_
  refine lv_if_ge (tgt := 6) hx hb dX7_drawn_1 (by decide) (fun c1 => ?_) (fun c1 => ?_)
  · have hF := q_it hF c1
    refine lv_iload_n hx hb dX7_drawn_6 rfl (lv_at hl 1 rfl) ?_
    refine lv_aload_n hx hb dX7_drawn_7 rfl (lv_at hl 0 rfl) ?_
    refine qg_M_X7_cells hM hP fl_X7_48 dX7_drawn_8 ?_
    refine lv_icmp_gt (tgt := 33) hx hb dX7_drawn_11 (by decide) (fun c2 => ?_) (fun c2 => ?_)
    · have hF := q_it hF c2
      refine lv_aload_n hx hb dX7_drawn_33 rfl (lv_at hl 0 rfl) ?_
      obtain ⟨r3, x4, hC5, hF⟩ := q_b2_e hF
      refine q_calli hM (c_X7_alarms l D cI cJ g ad _ _ hC5) hP hD hS ky_X7_alarms ml_X7_155 rfl rfl ⟨Nat.le_of_ble_eq_true rfl, Nat.le_of_ble_eq_true rfl⟩ 0 rfl rfl rfl hl.1 rfl (Nat.le_of_ble_eq_true rfl) ⟨Nat.zero_le _, Nat.zero_le _⟩ dX7_drawn_34 (fun H locs hz6 hP hD hS => ?_)
      refine lv_istore_n (lv' := [(2, .int r3), (0, .ref (ad 0)), (1, .int a1)]) hx hb dX7_drawn_37 rfl hl (by decide) rfl (fun ls hl => ?_)
      refine lv_iload_n hx hb dX7_drawn_38 rfl (lv_at hl 0 rfl) ?_
      refine lv_bipush (v := 10) hx hb dX7_drawn_39 (by decide) ?_
      obtain ⟨J49, hJ49, hF⟩ := q_jn_e hF
      have K49 : ∀ (t8 : Int32) (H : Heap) (locs : List Loc) (ls : Array Slot), lv_has ls 5 [(0, .ref (ad 0)), (1, .int a1), (2, .int r3)] → va_P D vwCl (q_WM cI ad x4) H → va_D A (q_WM cI ad x4) → va_S A s.heap H locs → J49 t8 = some res → W p l e { frames := 8, cells := 0, slots := 0, locals := 183 } s m args below meth c H locs 0 0 Q (F0 m 49 ls [.int t8]) := by
        clear hF; intro t8 H locs ls hl hP hD hS hF
        rw [hJ49] at hF
        try dsimp only at hF
        refine lv_istore_n (lv' := [(3, .int t8), (0, .ref (ad 0)), (1, .int a1), (2, .int r3)]) hx hb dX7_drawn_49 rfl hl (by decide) rfl (fun ls hl => ?_)
        refine lv_iload_n hx hb dX7_drawn_50 rfl (lv_at hl 2 rfl) ?_
        refine lv_aload_n hx hb dX7_drawn_51 rfl (lv_at hl 1 rfl) ?_
        refine qg_M_X7_cells hM hP fl_X7_48 dX7_drawn_52 ?_
        refine lv_isub hx hb dX7_drawn_55 ?_
        refine lv_iconst (v := 1) hx hb dX7_drawn_56 (by decide) ?_
        refine lv_isub hx hb dX7_drawn_57 ?_
        refine lv_topi (fun v9 ev9 => ?_)
        have hF := q_let_e hF ev9
        refine lv_istore (lv' := [(4, .int v9), (3, .int t8), (0, .ref (ad 0)), (1, .int a1), (2, .int r3)]) hx hb dX7_drawn_58 hl (by decide) rfl (fun ls hl => ?_)
        refine lv_iload hx hb dX7_drawn_60 (lv_at hl 0 rfl) ?_
        refine lv_iload_n hx hb dX7_drawn_62 rfl (lv_at hl 1 rfl) ?_
        refine lv_icmp_gt (tgt := 84) hx hb dX7_drawn_63 (by decide) (fun c10 => ?_) (fun c10 => ?_)
        · have hF := q_it hF c10
          refine lv_aload_n hx hb dX7_drawn_84 rfl (lv_at hl 2 rfl) ?_
          obtain ⟨r11, x12, hC13, hF⟩ := q_b2_e hF
          refine q_calli hM (c_X7_bunches l D cI cJ g ad _ _ hC13) hP hD hS ky_X7_bunches ml_X7_146 rfl rfl ⟨Nat.le_of_ble_eq_true rfl, Nat.le_of_ble_eq_true rfl⟩ 0 rfl rfl rfl hl.1 rfl (Nat.le_of_ble_eq_true rfl) ⟨Nat.zero_le _, Nat.zero_le _⟩ dX7_drawn_85 (fun H locs hz14 hP hD hS => ?_)
          refine lv_iload hx hb dX7_drawn_88 (lv_at hl 0 rfl) ?_
          refine lv_iload_n hx hb dX7_drawn_90 rfl (lv_at hl 1 rfl) ?_
          refine lv_isub hx hb dX7_drawn_91 ?_
          refine lv_iconst (v := 1) hx hb dX7_drawn_92 (by decide) ?_
          refine lv_isub hx hb dX7_drawn_93 ?_
          obtain ⟨r15, hC16, hF⟩ := q_b1_e hF
          refine q_calliS hM (c_X7_figure l D cI cJ g (q_WM cI ad x12) _ _ _ hC16) hP hD hS ky_X7_figure ml_X7_199 rfl rfl ⟨Nat.le_of_ble_eq_true rfl, Nat.le_of_ble_eq_true rfl⟩ rfl hl.1 rfl (Nat.le_of_ble_eq_true rfl) ⟨Nat.zero_le _, Nat.zero_le _⟩ dX7_drawn_94 (fun H locs hz17 hP hD hS => ?_)
          exact hRet (r15, x12) _ _ _ _ hF rfl dX7_drawn_97 hP hD hS
        · have hF := q_ie hF c10
          refine lv_iload hx hb dX7_drawn_66 (lv_at hl 0 rfl) ?_
          refine lv_iload_n hx hb dX7_drawn_68 rfl (lv_at hl 1 rfl) ?_
          refine lv_icmp_ge (tgt := 81) hx hb dX7_drawn_69 (by decide) (fun c18 => ?_) (fun c18 => ?_)
          · have hF := q_it hF c18
            refine lv_bipush (v := 32) hx hb dX7_drawn_81 (by decide) ?_
            exact hRet ((32 : Int32), x4) _ _ _ _ hF rfl dX7_drawn_83 hP hD hS
          · have hF := q_ie hF c18
            refine lv_iload_n hx hb dX7_drawn_72 rfl (lv_at hl 4 rfl) ?_
            refine lv_iload hx hb dX7_drawn_73 (lv_at hl 0 rfl) ?_
            obtain ⟨r19, hC20, hF⟩ := q_b1_e hF
            refine q_calliS hM (c_X7_figure l D cI cJ g (q_WM cI ad x4) _ _ _ hC20) hP hD hS ky_X7_figure ml_X7_199 rfl rfl ⟨Nat.le_of_ble_eq_true rfl, Nat.le_of_ble_eq_true rfl⟩ rfl hl.1 rfl (Nat.le_of_ble_eq_true rfl) ⟨Nat.zero_le _, Nat.zero_le _⟩ dX7_drawn_75 (fun H locs hz21 hP hD hS => ?_)
            refine lv_goto (tgt := 83) hx hb dX7_drawn_78 (by decide) ?_
            exact hRet (r19, x4) _ _ _ _ hF rfl dX7_drawn_83 hP hD hS
      refine lv_icmp_ge (tgt := 48) hx hb dX7_drawn_41 (by decide) (fun c7 => ?_) (fun c7 => ?_)
      · have hF := q_it hF c7
        refine lv_iconst (v := 2) hx hb dX7_drawn_48 (by decide) ?_
        exact K49 _ _ _ _ (lv_sub hl [1, 2, 0] rfl) hP hD hS hF
      · have hF := q_ie hF c7
        refine lv_iconst (v := 1) hx hb dX7_drawn_44 (by decide) ?_
        refine lv_goto (tgt := 49) hx hb dX7_drawn_45 (by decide) ?_
        exact K49 _ _ _ _ (lv_sub hl [1, 2, 0] rfl) hP hD hS hF
    · have hF := q_ie hF c2
      refine lv_iload_n hx hb dX7_drawn_14 rfl (lv_at hl 1 rfl) ?_
      refine lv_aload_n hx hb dX7_drawn_15 rfl (lv_at hl 0 rfl) ?_
      refine qg_M_X7_cells hM hP fl_X7_48 dX7_drawn_16 ?_
      refine lv_icmp_ge (tgt := 30) hx hb dX7_drawn_19 (by decide) (fun c22 => ?_) (fun c22 => ?_)
      · have hF := q_it hF c22
        refine lv_bipush (v := 61) hx hb dX7_drawn_30 (by decide) ?_
        exact hRet ((61 : Int32), x) _ _ _ _ hF rfl dX7_drawn_32 hP hD hS
      · have hF := q_ie hF c22
        refine lv_aload_n hx hb dX7_drawn_22 rfl (lv_at hl 0 rfl) ?_
        refine lv_iload_n hx hb dX7_drawn_23 rfl (lv_at hl 1 rfl) ?_
        obtain ⟨r23, x24, hC25, hF⟩ := q_b2_e hF
        refine q_calli hM (c_X7_sign l D cI cJ g ad _ _ _ hC25) hP hD hS ky_X7_sign ml_X7_196 rfl rfl ⟨Nat.le_of_ble_eq_true rfl, Nat.le_of_ble_eq_true rfl⟩ 0 rfl rfl rfl hl.1 rfl (Nat.le_of_ble_eq_true rfl) ⟨Nat.zero_le _, Nat.zero_le _⟩ dX7_drawn_24 (fun H locs hz26 hP hD hS => ?_)
        refine lv_goto (tgt := 32) hx hb dX7_drawn_27 (by decide) ?_
        exact hRet (r23, x24) _ _ _ _ hF rfl dX7_drawn_32 hP hD hS
  · have hF := q_ie hF c1
    refine lv_iconst (v := -1) hx hb dX7_drawn_4 (by decide) ?_
    exact hRet ((-1 : Int32), x) _ _ _ _ hF rfl dX7_drawn_5 hP hD hS
end
