section
theorem ky_X7_power : q_Y yX7_power cX7_power 3 (some .int) 2 := ⟨cw_X7_power, im_X7_power, se_X7_power, in_X7, by decide +kernel⟩
set_option maxHeartbeats 4000000 in
set_option maxRecDepth 100000 in
theorem c_X7_power (l : Launch) (D : va_G) (cI cJ : ClassId) (g : Nat → Nat) (ad : Nat → Nat) (x : IS) (a1 : Int32) (a2 : Int32) (res : Int32 × IS) (hF : f_X7_power x a1 a2 = some res) : q_Mi l yX7_power cX7_power 3 .int { frames := 2, cells := 0, slots := 0, locals := 44 } D cI cJ g (q_WM cI ad x) [.ref (ad 0), .int a1, .int a2] (res.1) (q_WM cI ad (res.2)) := by
  refine q_ofi (res := res) (fun u : Int32 × IS => u.1) (fun u : Int32 × IS => (q_WM cI ad (u.2))) pl_X7 (Nat.le_of_ble_eq_true rfl) ?_
  intro p e s m args below meth c A Q hM hRet ls hl hP hD hS
  have hx := hM.1.1
  have hb := hM.1.2.1
  have hl : lv_has ls 3 [(0, .ref (ad 0)), (1, .int a1), (2, .int a2)] := hl
  unfold f_X7_power at hF
  refine lv_aload_n hx hb dX7_power_0 rfl (lv_at hl 0 rfl) ?_
  refine lv_iload_n hx hb dX7_power_1 rfl (lv_at hl 1 rfl) ?_
  obtain ⟨r1, hC2, hF⟩ := q_b1_e hF
  refine q_calli hM (c_X7_isCell l D cI cJ g ad _ _ _ hC2) hP hD hS ky_X7_isCell ml_X7_107 rfl rfl ⟨Nat.le_of_ble_eq_true rfl, Nat.le_of_ble_eq_true rfl⟩ 0 rfl rfl rfl hl.1 rfl (Nat.le_of_ble_eq_true rfl) ⟨Nat.zero_le _, Nat.zero_le _⟩ dX7_power_2 (fun H locs hz3 hP hD hS => ?_)
  refine lv_if_eq (tgt := 27) hx hb dX7_power_5 (by decide) (fun c4 => ?_) (fun c4 => ?_)
  · have hF := q_it hF c4
    refine lv_iconst (v := -1) hx hb dX7_power_27 (by decide) ?_
    exact hRet ((-1 : Int32), x) _ _ _ _ hF rfl dX7_power_28 hP hD hS
  · have hF := q_ie hF c4
    refine lv_iload_n hx hb dX7_power_8 rfl (lv_at hl 2 rfl) ?_
    refine lv_iconst (v := 0) hx hb dX7_power_9 (by decide) ?_
    refine lv_bipush (v := 99) hx hb dX7_power_10 (by decide) ?_
    obtain ⟨r5, hC6, hF⟩ := q_b1_e hF
    refine q_calliS hM (c_X7_isIn l D cI cJ g (q_WM cI ad x) _ _ _ _ hC6) hP hD hS ky_X7_isIn ml_X7_76 rfl rfl ⟨Nat.le_of_ble_eq_true rfl, Nat.le_of_ble_eq_true rfl⟩ rfl hl.1 rfl (Nat.le_of_ble_eq_true rfl) ⟨Nat.zero_le _, Nat.zero_le _⟩ dX7_power_12 (fun H locs hz7 hP hD hS => ?_)
    refine lv_if_eq (tgt := 27) hx hb dX7_power_15 (by decide) (fun c8 => ?_) (fun c8 => ?_)
    · have hF := q_it hF c8
      refine lv_iconst (v := -1) hx hb dX7_power_27 (by decide) ?_
      exact hRet ((-1 : Int32), x) _ _ _ _ hF rfl dX7_power_28 hP hD hS
    · have hF := q_ie hF c8
      refine lv_aload_n hx hb dX7_power_18 rfl (lv_at hl 0 rfl) ?_
      refine lv_iload_n hx hb dX7_power_19 rfl (lv_at hl 1 rfl) ?_
      refine lv_iload_n hx hb dX7_power_20 rfl (lv_at hl 2 rfl) ?_
      obtain ⟨r9, x10, hC11, hF⟩ := q_b2_e hF
      refine q_calli hM (c_X7_becomes l D cI cJ g ad _ _ _ _ hC11) hP hD hS ky_X7_becomes ml_X7_110 rfl rfl ⟨Nat.le_of_ble_eq_true rfl, Nat.le_of_ble_eq_true rfl⟩ 0 rfl rfl rfl hl.1 rfl (Nat.le_of_ble_eq_true rfl) ⟨Nat.zero_le _, Nat.zero_le _⟩ dX7_power_21 (fun H locs hz12 hP hD hS => ?_)
      refine lv_goto (tgt := 28) hx hb dX7_power_24 (by decide) ?_
      exact hRet (r9, x10) _ _ _ _ hF rfl dX7_power_28 hP hD hS
theorem ky_X7_leftOut : q_Y yX7_leftOut cX7_leftOut 3 (some .int) 0 := ⟨cw_X7_leftOut, im_X7_leftOut, se_X7_leftOut, in_X7, by decide +kernel⟩
set_option maxHeartbeats 4000000 in
set_option maxRecDepth 100000 in
theorem c_X7_leftOut (l : Launch) (D : va_G) (cI cJ : ClassId) (g : Nat → Nat) (ad : Nat → Nat) (x : IS) (res : Int32) (hF : f_X7_leftOut x = some res) : q_Mi l yX7_leftOut cX7_leftOut 3 .int { frames := 0, cells := 0, slots := 0, locals := 0 } D cI cJ g (q_WM cI ad x) [.ref (ad 0)] (res) (q_WM cI ad x) := by
  refine q_ofi (res := res) (fun u : Int32 => u) (fun _ : Int32 => (q_WM cI ad x)) pl_X7 (Nat.le_of_ble_eq_true rfl) ?_
  intro p e s m args below meth c A Q hM hRet ls hl hP hD hS
  have hx := hM.1.1
  have hb := hM.1.2.1
  have hl : lv_has ls 3 [(0, .ref (ad 0))] := hl
  unfold f_X7_leftOut at hF
  refine lv_iconst (v := 0) hx hb dX7_leftOut_0 (by decide) ?_
  refine lv_istore_n (lv' := [(1, .int (0 : Int32)), (0, .ref (ad 0))]) hx hb dX7_leftOut_1 rfl hl (by decide) rfl (fun ls hl => ?_)
  refine lv_iconst (v := 0) hx hb dX7_leftOut_2 (by decide) ?_
  refine lv_istore_n (lv' := [(2, .int (0 : Int32)), (1, .int (0 : Int32)), (0, .ref (ad 0))]) hx hb dX7_leftOut_3 rfl hl (by decide) rfl (fun ls hl => ?_)
  have L4 : ∀ (k : Int32 → Option (Int32)) (n : Nat) (v1 : Int32) (v2 : Int32) (H : Heap) (locs : List Loc) (ls : Array Slot), lv_has ls 3 [(0, .ref (ad 0)), (1, .int v1), (2, .int v2)] → va_P D vwCl (q_WM cI ad x) H → va_D A (q_WM cI ad x) → va_S A s.heap H locs → (∀ (e3 : Int32) (H : Heap) (locs : List Loc) (ls : Array Slot), lv_has ls 3 [(1, .int e3)] → va_P D vwCl (q_WM cI ad x) H → va_D A (q_WM cI ad x) → va_S A s.heap H locs → k e3 = some res → W p l e { frames := 0, cells := 0, slots := 0, locals := 0 } s m args below meth c H locs 0 0 Q (F0 m 30 ls [])) → f_X7_leftOut_L4 x k n v1 v2 = some res → W p l e { frames := 0, cells := 0, slots := 0, locals := 0 } s m args below meth c H locs 0 0 Q (F0 m 4 ls []) := by
    intro k n
    induction n with
    | zero => intro v1 v2 H locs ls hl hP hD hS hk hF; exact q_no hF
    | succ n ih =>
      intro v1 v2 H locs ls hl hP hD hS hk hF
      have hF : f_X7_leftOut_L4F x k (f_X7_leftOut_L4 x k n) v1 v2 = some res := hF
      unfold f_X7_leftOut_L4F at hF
      refine lv_iload_n hx hb dX7_leftOut_4 rfl (lv_at hl 2 rfl) ?_
      refine lv_aload_n hx hb dX7_leftOut_5 rfl (lv_at hl 0 rfl) ?_
      refine qg_M_X7_cells hM hP fl_X7_48 dX7_leftOut_6 ?_
      refine lv_icmp_ge (tgt := 30) hx hb dX7_leftOut_9 (by decide) (fun c4 => ?_) (fun c4 => ?_)
      · have hF := q_it hF c4
        exact hk _ _ _ _ (lv_sub hl [1] rfl) hP hD hS hF
      · have hF := q_ie hF c4
        refine lv_iload_n hx hb dX7_leftOut_12 rfl (lv_at hl 1 rfl) ?_
        refine lv_aload_n hx hb dX7_leftOut_13 rfl (lv_at hl 0 rfl) ?_
        refine qg_M_X7_now hM hP fl_X7_16 dX7_leftOut_14 ?_
        refine lv_bipush (v := 48) hx hb dX7_leftOut_17 (by decide) ?_
        refine lv_iload_n hx hb dX7_leftOut_19 rfl (lv_at hl 2 rfl) ?_
        refine lv_iadd hx hb dX7_leftOut_20 ?_
        obtain ⟨h5, hF⟩ := q_gd_e hF
        refine ql_M_X7_now hM hP h5 dX7_leftOut_21 ?_
        refine lv_iadd hx hb dX7_leftOut_22 ?_
        refine lv_topi (fun v6 ev6 => ?_)
        have hF := q_let_e hF ev6
        refine lv_istore_n (lv' := [(1, .int v6), (0, .ref (ad 0)), (2, .int v2)]) hx hb dX7_leftOut_23 rfl hl (by decide) rfl (fun ls hl => ?_)
        obtain ⟨v7, ev7⟩ : ∃ y : Int32, y = v2 + 1 := ⟨_, rfl⟩
        have hF := q_let_e hF ev7
        refine lv_iinc (v := v7) (lv' := [(2, .int v7), (1, .int v6), (0, .ref (ad 0))]) hx hb dX7_leftOut_24 hl (k := 2) rfl (by rw [ev7]; rfl) (by decide) rfl (fun ls hl => ?_)
        refine lv_goto (tgt := 4) hx hb dX7_leftOut_27 (by decide) ?_
        exact ih _ _ _ _ _ (lv_sub hl [2, 1, 0] rfl) hP hD hS hk hF
  refine L4 _ _ _ _ _ _ _ (lv_sub hl [2, 1, 0] rfl) hP hD hS ?_ hF
  clear hF
  intro e3 H locs ls hl hP hD hS hF
  refine lv_iload_n hx hb dX7_leftOut_30 rfl (lv_at hl 0 rfl) ?_
  exact hRet e3 _ _ _ _ hF rfl dX7_leftOut_31 hP hD hS
theorem ky_X7_leave : q_Y yX7_leave cX7_leave 3 (some .int) 2 := ⟨cw_X7_leave, im_X7_leave, se_X7_leave, in_X7, by decide +kernel⟩
set_option maxHeartbeats 4000000 in
set_option maxRecDepth 100000 in
theorem c_X7_leave (l : Launch) (D : va_G) (cI cJ : ClassId) (g : Nat → Nat) (ad : Nat → Nat) (x : IS) (a1 : Int32) (a2 : Int32) (res : Int32 × IS) (hF : f_X7_leave x a1 a2 = some res) : q_Mi l yX7_leave cX7_leave 3 .int { frames := 2, cells := 0, slots := 0, locals := 44 } D cI cJ g (q_WM cI ad x) [.ref (ad 0), .int a1, .int a2] (res.1) (q_WM cI ad (res.2)) := by
  refine q_ofi (res := res) (fun u : Int32 × IS => u.1) (fun u : Int32 × IS => (q_WM cI ad (u.2))) pl_X7 (Nat.le_of_ble_eq_true rfl) ?_
  intro p e s m args below meth c A Q hM hRet ls hl hP hD hS
  have hx := hM.1.1
  have hb := hM.1.2.1
  have hl : lv_has ls 3 [(0, .ref (ad 0)), (1, .int a1), (2, .int a2)] := hl
  unfold f_X7_leave at hF
  refine lv_aload_n hx hb dX7_leave_0 rfl (lv_at hl 0 rfl) ?_
  refine lv_iload_n hx hb dX7_leave_1 rfl (lv_at hl 1 rfl) ?_
  obtain ⟨r1, hC2, hF⟩ := q_b1_e hF
  refine q_calli hM (c_X7_isCell l D cI cJ g ad _ _ _ hC2) hP hD hS ky_X7_isCell ml_X7_107 rfl rfl ⟨Nat.le_of_ble_eq_true rfl, Nat.le_of_ble_eq_true rfl⟩ 0 rfl rfl rfl hl.1 rfl (Nat.le_of_ble_eq_true rfl) ⟨Nat.zero_le _, Nat.zero_le _⟩ dX7_leave_2 (fun H locs hz3 hP hD hS => ?_)
  refine lv_if_eq (tgt := 17) hx hb dX7_leave_5 (by decide) (fun c4 => ?_) (fun c4 => ?_)
  · have hF := q_it hF c4
    refine lv_iconst (v := -1) hx hb dX7_leave_17 (by decide) ?_
    exact hRet ((-1 : Int32), x) _ _ _ _ hF rfl dX7_leave_18 hP hD hS
  · have hF := q_ie hF c4
    refine lv_iload_n hx hb dX7_leave_8 rfl (lv_at hl 2 rfl) ?_
    refine lv_iconst (v := 0) hx hb dX7_leave_9 (by decide) ?_
    refine lv_iconst (v := 1) hx hb dX7_leave_10 (by decide) ?_
    obtain ⟨r5, hC6, hF⟩ := q_b1_e hF
    refine q_calliS hM (c_X7_isIn l D cI cJ g (q_WM cI ad x) _ _ _ _ hC6) hP hD hS ky_X7_isIn ml_X7_76 rfl rfl ⟨Nat.le_of_ble_eq_true rfl, Nat.le_of_ble_eq_true rfl⟩ rfl hl.1 rfl (Nat.le_of_ble_eq_true rfl) ⟨Nat.zero_le _, Nat.zero_le _⟩ dX7_leave_11 (fun H locs hz7 hP hD hS => ?_)
    refine lv_if_ne (tgt := 19) hx hb dX7_leave_14 (by decide) (fun c8 => ?_) (fun c8 => ?_)
    · have hF := q_ie hF c8
      refine lv_aload_n hx hb dX7_leave_19 rfl (lv_at hl 0 rfl) ?_
      refine lv_bipush (v := 48) hx hb dX7_leave_20 (by decide) ?_
      refine lv_iload_n hx hb dX7_leave_22 rfl (lv_at hl 1 rfl) ?_
      refine lv_iadd hx hb dX7_leave_23 ?_
      refine lv_iload_n hx hb dX7_leave_24 rfl (lv_at hl 2 rfl) ?_
      obtain ⟨r9, x10, hC11, hF⟩ := q_b2_e hF
      refine q_calli hM (c_X7_becomes l D cI cJ g ad _ _ _ _ hC11) hP hD hS ky_X7_becomes ml_X7_110 rfl rfl ⟨Nat.le_of_ble_eq_true rfl, Nat.le_of_ble_eq_true rfl⟩ 0 rfl rfl rfl hl.1 rfl (Nat.le_of_ble_eq_true rfl) ⟨Nat.zero_le _, Nat.zero_le _⟩ dX7_leave_25 (fun H locs hz12 hP hD hS => ?_)
      refine lv_bipush (v := -2) hx hb dX7_leave_28 (by decide) ?_
      refine lv_icmp_ne (tgt := 38) hx hb dX7_leave_30 (by decide) (fun c13 => ?_) (fun c13 => ?_)
      · have hF := q_ie hF c13
        refine lv_aload_n hx hb dX7_leave_38 rfl (lv_at hl 0 rfl) ?_
        obtain ⟨r14, hC15, hF⟩ := q_b1_e hF
        refine q_calli hM (c_X7_leftOut l D cI cJ g ad _ _ hC15) hP hD hS ky_X7_leftOut ml_X7_114 rfl rfl ⟨Nat.le_of_ble_eq_true rfl, Nat.le_of_ble_eq_true rfl⟩ 0 rfl rfl rfl hl.1 rfl (Nat.le_of_ble_eq_true rfl) ⟨Nat.zero_le _, Nat.zero_le _⟩ dX7_leave_39 (fun H locs hz16 hP hD hS => ?_)
        exact hRet (r14, x10) _ _ _ _ hF rfl dX7_leave_42 hP hD hS
      · have hF := q_it hF c13
        refine lv_bipush (v := -2) hx hb dX7_leave_33 (by decide) ?_
        refine lv_goto (tgt := 42) hx hb dX7_leave_35 (by decide) ?_
        exact hRet ((-2 : Int32), x10) _ _ _ _ hF rfl dX7_leave_42 hP hD hS
    · have hF := q_it hF c8
      refine lv_iconst (v := -1) hx hb dX7_leave_17 (by decide) ?_
      exact hRet ((-1 : Int32), x) _ _ _ _ hF rfl dX7_leave_18 hP hD hS
theorem ky_X7_look : q_Y yX7_look cX7_look 3 (some .int) 2 := ⟨cw_X7_look, im_X7_look, se_X7_look, in_X7, by decide +kernel⟩
set_option maxHeartbeats 4000000 in
set_option maxRecDepth 100000 in
theorem c_X7_look (l : Launch) (D : va_G) (cI cJ : ClassId) (g : Nat → Nat) (ad : Nat → Nat) (x : IS) (a1 : Int32) (a2 : Int32) (res : Int32 × IS) (hF : f_X7_look x a1 a2 = some res) : q_Mi l yX7_look cX7_look 3 .int { frames := 2, cells := 0, slots := 0, locals := 44 } D cI cJ g (q_WM cI ad x) [.ref (ad 0), .int a1, .int a2] (res.1) (q_WM cI ad (res.2)) := by
  refine q_ofi (res := res) (fun u : Int32 × IS => u.1) (fun u : Int32 × IS => (q_WM cI ad (u.2))) pl_X7 (Nat.le_of_ble_eq_true rfl) ?_
  intro p e s m args below meth c A Q hM hRet ls hl hP hD hS
  have hx := hM.1.1
  have hb := hM.1.2.1
  have hl : lv_has ls 3 [(0, .ref (ad 0)), (1, .int a1), (2, .int a2)] := hl
  unfold f_X7_look at hF
  refine lv_iload_n hx hb dX7_look_0 rfl (lv_at hl 1 rfl) ?_
  refine lv_iconst (v := 0) hx hb dX7_look_1 (by decide) ?_
  refine lv_iconst (v := 4) hx hb dX7_look_2 (by decide) ?_
  obtain ⟨r1, hC2, hF⟩ := q_b1_e hF
  refine q_calliS hM (c_X7_isIn l D cI cJ g (q_WM cI ad x) _ _ _ _ hC2) hP hD hS ky_X7_isIn ml_X7_76 rfl rfl ⟨Nat.le_of_ble_eq_true rfl, Nat.le_of_ble_eq_true rfl⟩ rfl hl.1 rfl (Nat.le_of_ble_eq_true rfl) ⟨Nat.zero_le _, Nat.zero_le _⟩ dX7_look_3 (fun H locs hz3 hP hD hS => ?_)
  refine lv_if_eq (tgt := 36) hx hb dX7_look_6 (by decide) (fun c4 => ?_) (fun c4 => ?_)
  · have hF := q_it hF c4
    refine lv_iconst (v := -1) hx hb dX7_look_36 (by decide) ?_
    exact hRet ((-1 : Int32), x) _ _ _ _ hF rfl dX7_look_37 hP hD hS
  · have hF := q_ie hF c4
    refine lv_iload_n hx hb dX7_look_9 rfl (lv_at hl 2 rfl) ?_
    refine lv_iload_n hx hb dX7_look_10 rfl (lv_at hl 1 rfl) ?_
    obtain ⟨r5, hC6, hF⟩ := q_b1_e hF
    refine q_calliS hM (c_X7_least l D cI cJ g (q_WM cI ad x) _ _ hC6) hP hD hS ky_X7_least ml_X7_70 rfl rfl ⟨Nat.le_of_ble_eq_true rfl, Nat.le_of_ble_eq_true rfl⟩ rfl hl.1 rfl (Nat.le_of_ble_eq_true rfl) ⟨Nat.zero_le _, Nat.zero_le _⟩ dX7_look_11 (fun H locs hz7 hP hD hS => ?_)
    refine lv_iload_n hx hb dX7_look_14 rfl (lv_at hl 1 rfl) ?_
    obtain ⟨r8, hC9, hF⟩ := q_b1_e hF
    refine q_calliS hM (c_X7_most l D cI cJ g (q_WM cI ad x) _ _ hC9) hP hD hS ky_X7_most ml_X7_73 rfl rfl ⟨Nat.le_of_ble_eq_true rfl, Nat.le_of_ble_eq_true rfl⟩ rfl hl.1 rfl (Nat.le_of_ble_eq_true rfl) ⟨Nat.zero_le _, Nat.zero_le _⟩ dX7_look_15 (fun H locs hz10 hP hD hS => ?_)
    obtain ⟨r11, hC12, hF⟩ := q_b1_e hF
    refine q_calliS hM (c_X7_isIn l D cI cJ g (q_WM cI ad x) _ _ _ _ hC12) hP hD hS ky_X7_isIn ml_X7_76 rfl rfl ⟨Nat.le_of_ble_eq_true rfl, Nat.le_of_ble_eq_true rfl⟩ rfl hl.1 rfl (Nat.le_of_ble_eq_true rfl) ⟨Nat.zero_le _, Nat.zero_le _⟩ dX7_look_18 (fun H locs hz13 hP hD hS => ?_)
    refine lv_if_eq (tgt := 36) hx hb dX7_look_21 (by decide) (fun c14 => ?_) (fun c14 => ?_)
    · have hF := q_it hF c14
      refine lv_iconst (v := -1) hx hb dX7_look_36 (by decide) ?_
      exact hRet ((-1 : Int32), x) _ _ _ _ hF rfl dX7_look_37 hP hD hS
    · have hF := q_ie hF c14
      refine lv_aload_n hx hb dX7_look_24 rfl (lv_at hl 0 rfl) ?_
      refine lv_bipush (v := 96) hx hb dX7_look_25 (by decide) ?_
      refine lv_iload_n hx hb dX7_look_27 rfl (lv_at hl 1 rfl) ?_
      refine lv_iadd hx hb dX7_look_28 ?_
      refine lv_iload_n hx hb dX7_look_29 rfl (lv_at hl 2 rfl) ?_
      obtain ⟨r15, x16, hC17, hF⟩ := q_b2_e hF
      refine q_calli hM (c_X7_becomes l D cI cJ g ad _ _ _ _ hC17) hP hD hS ky_X7_becomes ml_X7_110 rfl rfl ⟨Nat.le_of_ble_eq_true rfl, Nat.le_of_ble_eq_true rfl⟩ 0 rfl rfl rfl hl.1 rfl (Nat.le_of_ble_eq_true rfl) ⟨Nat.zero_le _, Nat.zero_le _⟩ dX7_look_30 (fun H locs hz18 hP hD hS => ?_)
      refine lv_goto (tgt := 37) hx hb dX7_look_33 (by decide) ?_
      exact hRet (r15, x16) _ _ _ _ hF rfl dX7_look_37 hP hD hS
theorem ky_X7_mode : q_Y yX7_mode cX7_mode 2 (some .int) 1 := ⟨cw_X7_mode, im_X7_mode, se_X7_mode, in_X7, by decide +kernel⟩
set_option maxHeartbeats 4000000 in
set_option maxRecDepth 100000 in
theorem c_X7_mode (l : Launch) (D : va_G) (cI cJ : ClassId) (g : Nat → Nat) (ad : Nat → Nat) (x : IS) (a1 : Int32) (res : Int32 × IS) (hF : f_X7_mode x a1 = some res) : q_Mi l yX7_mode cX7_mode 2 .int { frames := 2, cells := 0, slots := 0, locals := 44 } D cI cJ g (q_WM cI ad x) [.ref (ad 0), .int a1] (res.1) (q_WM cI ad (res.2)) := by
  refine q_ofi (res := res) (fun u : Int32 × IS => u.1) (fun u : Int32 × IS => (q_WM cI ad (u.2))) pl_X7 (Nat.le_of_ble_eq_true rfl) ?_
  intro p e s m args below meth c A Q hM hRet ls hl hP hD hS
  have hx := hM.1.1
  have hb := hM.1.2.1
  have hl : lv_has ls 2 [(0, .ref (ad 0)), (1, .int a1)] := hl
  unfold f_X7_mode at hF
  refine lv_iload_n hx hb dX7_mode_0 rfl (lv_at hl 1 rfl) ?_
  refine lv_iconst (v := 0) hx hb dX7_mode_1 (by decide) ?_
  refine lv_iconst (v := 2) hx hb dX7_mode_2 (by decide) ?_
  obtain ⟨r1, hC2, hF⟩ := q_b1_e hF
  refine q_calliS hM (c_X7_isIn l D cI cJ g (q_WM cI ad x) _ _ _ _ hC2) hP hD hS ky_X7_isIn ml_X7_76 rfl rfl ⟨Nat.le_of_ble_eq_true rfl, Nat.le_of_ble_eq_true rfl⟩ rfl hl.1 rfl (Nat.le_of_ble_eq_true rfl) ⟨Nat.zero_le _, Nat.zero_le _⟩ dX7_mode_3 (fun H locs hz3 hP hD hS => ?_)
  refine lv_if_eq (tgt := 19) hx hb dX7_mode_6 (by decide) (fun c4 => ?_) (fun c4 => ?_)
  · have hF := q_it hF c4
    refine lv_iconst (v := -1) hx hb dX7_mode_19 (by decide) ?_
    exact hRet ((-1 : Int32), x) _ _ _ _ hF rfl dX7_mode_20 hP hD hS
  · have hF := q_ie hF c4
    refine lv_aload_n hx hb dX7_mode_9 rfl (lv_at hl 0 rfl) ?_
    refine lv_bipush (v := 101) hx hb dX7_mode_10 (by decide) ?_
    refine lv_iload_n hx hb dX7_mode_12 rfl (lv_at hl 1 rfl) ?_
    obtain ⟨r5, x6, hC7, hF⟩ := q_b2_e hF
    refine q_calli hM (c_X7_becomes l D cI cJ g ad _ _ _ _ hC7) hP hD hS ky_X7_becomes ml_X7_110 rfl rfl ⟨Nat.le_of_ble_eq_true rfl, Nat.le_of_ble_eq_true rfl⟩ 0 rfl rfl rfl hl.1 rfl (Nat.le_of_ble_eq_true rfl) ⟨Nat.zero_le _, Nat.zero_le _⟩ dX7_mode_13 (fun H locs hz8 hP hD hS => ?_)
    refine lv_goto (tgt := 20) hx hb dX7_mode_16 (by decide) ?_
    exact hRet (r5, x6) _ _ _ _ hF rfl dX7_mode_20 hP hD hS
theorem ky_X7_slide : q_Y yX7_slide cX7_slide 4 (some .int) 1 := ⟨cw_X7_slide, im_X7_slide, se_X7_slide, in_X7, by decide +kernel⟩
set_option maxHeartbeats 4000000 in
set_option maxRecDepth 100000 in
theorem c_X7_slide (l : Launch) (D : va_G) (cI cJ : ClassId) (g : Nat → Nat) (ad : Nat → Nat) (x : IS) (a1 : Int32) (res : Int32 × IS) (hF : f_X7_slide x a1 = some res) : q_Mi l yX7_slide cX7_slide 4 .int { frames := 1, cells := 0, slots := 0, locals := 22 } D cI cJ g (q_WM cI ad x) [.ref (ad 0), .int a1] (res.1) (q_WM cI ad (res.2)) := by
  refine q_ofi (res := res) (fun u : Int32 × IS => u.1) (fun u : Int32 × IS => (q_WM cI ad (u.2))) pl_X7 (Nat.le_of_ble_eq_true rfl) ?_
  intro p e s m args below meth c A Q hM hRet ls hl hP hD hS
  have hx := hM.1.1
  have hb := hM.1.2.1
  have hl : lv_has ls 4 [(0, .ref (ad 0)), (1, .int a1)] := hl
  unfold f_X7_slide at hF
  refine lv_iload_n hx hb dX7_slide_0 rfl (lv_at hl 1 rfl) ?_
  refine lv_iconst (v := 0) hx hb dX7_slide_1 (by decide) ?_
  refine lv_bipush (v := 99) hx hb dX7_slide_2 (by decide) ?_
  obtain ⟨r1, hC2, hF⟩ := q_b1_e hF
  refine q_calliS hM (c_X7_isIn l D cI cJ g (q_WM cI ad x) _ _ _ _ hC2) hP hD hS ky_X7_isIn ml_X7_76 rfl rfl ⟨Nat.le_of_ble_eq_true rfl, Nat.le_of_ble_eq_true rfl⟩ rfl hl.1 rfl (Nat.le_of_ble_eq_true rfl) ⟨Nat.zero_le _, Nat.zero_le _⟩ dX7_slide_4 (fun H locs hz3 hP hD hS => ?_)
  refine lv_if_ne (tgt := 12) hx hb dX7_slide_7 (by decide) (fun c4 => ?_) (fun c4 => ?_)
  · have hF := q_ie hF c4
    refine lv_aload_n hx hb dX7_slide_12 rfl (lv_at hl 0 rfl) ?_
    refine qg_M_X7_now hM hP fl_X7_16 dX7_slide_13 ?_
    refine lv_iconst (v := 0) hx hb dX7_slide_16 (by decide) ?_
    refine ql_M_X7_now hM hP (by decide) dX7_slide_17 ?_
    refine lv_topi (fun v5 ev5 => ?_)
    have hF := q_let_e hF ev5
    refine lv_istore_n (lv' := [(2, .int v5), (0, .ref (ad 0)), (1, .int a1)]) hx hb dX7_slide_18 rfl hl (by decide) rfl (fun ls hl => ?_)
    refine lv_aload_n hx hb dX7_slide_19 rfl (lv_at hl 1 rfl) ?_
    obtain ⟨x6, hC7, hF⟩ := q_b1_e hF
    refine q_callv hM (c_X7_keeps l D cI cJ g ad _ _ hC7) hP hD hS ky_X7_keeps ml_X7_104 rfl rfl ⟨Nat.le_of_ble_eq_true rfl, Nat.le_of_ble_eq_true rfl⟩ 0 rfl rfl rfl hl.1 rfl (Nat.le_of_ble_eq_true rfl) ⟨Nat.zero_le _, Nat.zero_le _⟩ dX7_slide_20 (fun H locs hP hD hS => ?_)
    refine lv_iconst (v := 1) hx hb dX7_slide_23 (by decide) ?_
    refine lv_istore_n (lv' := [(3, .int (1 : Int32)), (2, .int v5), (0, .ref (ad 0)), (1, .int a1)]) hx hb dX7_slide_24 rfl hl (by decide) rfl (fun ls hl => ?_)
    have L25 : ∀ (k : IS → Option (Int32 × IS)) (n : Nat) (v8 : Int32) (x9 : IS) (H : Heap) (locs : List Loc) (ls : Array Slot), lv_has ls 4 [(0, .ref (ad 0)), (1, .int a1), (2, .int v5), (3, .int v8)] → va_P D vwCl (q_WM cI ad x9) H → va_D A (q_WM cI ad x9) → va_S A s.heap H locs → (∀ (x10 : IS) (H : Heap) (locs : List Loc) (ls : Array Slot), lv_has ls 4 [(0, .ref (ad 0)), (1, .int a1), (2, .int v5)] → va_P D vwCl (q_WM cI ad x10) H → va_D A (q_WM cI ad x10) → va_S A s.heap H locs → k x10 = some res → W p l e { frames := 1, cells := 0, slots := 0, locals := 22 } s m args below meth c H locs 0 0 Q (F0 m 71 ls [])) → f_X7_slide_L25 a1 v5 k n v8 x9 = some res → W p l e { frames := 1, cells := 0, slots := 0, locals := 22 } s m args below meth c H locs 0 0 Q (F0 m 25 ls []) := by
      intro k n
      induction n with
      | zero => intro v8 x9 H locs ls hl hP hD hS hk hF; exact q_no hF
      | succ n ih =>
        intro v8 x9 H locs ls hl hP hD hS hk hF
        have hF : f_X7_slide_L25F a1 v5 k (f_X7_slide_L25 a1 v5 k n) v8 x9 = some res := hF
        unfold f_X7_slide_L25F at hF
        refine lv_iload_n hx hb dX7_slide_25 rfl (lv_at hl 3 rfl) ?_
        refine lv_aload_n hx hb dX7_slide_26 rfl (lv_at hl 0 rfl) ?_
        refine qg_M_X7_cells hM hP fl_X7_48 dX7_slide_27 ?_
        refine lv_icmp_ge (tgt := 71) hx hb dX7_slide_30 (by decide) (fun c11 => ?_) (fun c11 => ?_)
        · have hF := q_it hF c11
          exact hk _ _ _ _ (lv_sub hl [0, 1, 2] rfl) hP hD hS hF
        · have hF := q_ie hF c11
          refine lv_aload_n hx hb dX7_slide_33 rfl (lv_at hl 0 rfl) ?_
          refine qg_M_X7_now hM hP fl_X7_16 dX7_slide_34 ?_
          refine lv_iload_n hx hb dX7_slide_37 rfl (lv_at hl 3 rfl) ?_
          refine lv_iconst (v := 1) hx hb dX7_slide_38 (by decide) ?_
          refine lv_isub hx hb dX7_slide_39 ?_
          refine lv_aload_n hx hb dX7_slide_40 rfl (lv_at hl 0 rfl) ?_
          refine qg_M_X7_now hM hP fl_X7_16 dX7_slide_41 ?_
          refine lv_iload_n hx hb dX7_slide_44 rfl (lv_at hl 3 rfl) ?_
          obtain ⟨h12, hF⟩ := q_gd_e hF
          refine ql_M_X7_now hM hP h12 dX7_slide_45 ?_
          obtain ⟨h13, hF⟩ := q_gd_e hF
          refine qs_M_X7_now hM hP hD hS h13 dX7_slide_46 (fun x14 H locs ex14 hP hD hS => ?_)
          have hF := q_let_e hF ex14
          refine lv_aload_n hx hb dX7_slide_47 rfl (lv_at hl 0 rfl) ?_
          refine qg_M_X7_now hM hP fl_X7_16 dX7_slide_48 ?_
          refine lv_bipush (v := 47) hx hb dX7_slide_51 (by decide) ?_
          refine lv_iload_n hx hb dX7_slide_53 rfl (lv_at hl 3 rfl) ?_
          refine lv_iadd hx hb dX7_slide_54 ?_
          refine lv_aload_n hx hb dX7_slide_55 rfl (lv_at hl 0 rfl) ?_
          refine qg_M_X7_now hM hP fl_X7_16 dX7_slide_56 ?_
          refine lv_bipush (v := 48) hx hb dX7_slide_59 (by decide) ?_
          refine lv_iload_n hx hb dX7_slide_61 rfl (lv_at hl 3 rfl) ?_
          refine lv_iadd hx hb dX7_slide_62 ?_
          obtain ⟨h15, hF⟩ := q_gd_e hF
          refine ql_M_X7_now hM hP h15 dX7_slide_63 ?_
          obtain ⟨h16, hF⟩ := q_gd_e hF
          refine qs_M_X7_now hM hP hD hS h16 dX7_slide_64 (fun x17 H locs ex17 hP hD hS => ?_)
          have hF := q_let_e hF ex17
          obtain ⟨v18, ev18⟩ : ∃ y : Int32, y = v8 + 1 := ⟨_, rfl⟩
          have hF := q_let_e hF ev18
          refine lv_iinc (v := v18) (lv' := [(3, .int v18), (0, .ref (ad 0)), (1, .int a1), (2, .int v5)]) hx hb dX7_slide_65 hl (k := 3) rfl (by rw [ev18]; rfl) (by decide) rfl (fun ls hl => ?_)
          refine lv_goto (tgt := 25) hx hb dX7_slide_68 (by decide) ?_
          exact ih _ _ _ _ _ (lv_sub hl [1, 2, 3, 0] rfl) hP hD hS hk hF
    refine L25 _ _ _ _ _ _ _ (lv_sub hl [2, 3, 1, 0] rfl) hP hD hS ?_ hF
    clear hF
    intro x10 H locs ls hl hP hD hS hF
    refine lv_aload_n hx hb dX7_slide_71 rfl (lv_at hl 0 rfl) ?_
    refine qg_M_X7_now hM hP fl_X7_16 dX7_slide_72 ?_
    refine lv_aload_n hx hb dX7_slide_75 rfl (lv_at hl 0 rfl) ?_
    refine qg_M_X7_cells hM hP fl_X7_48 dX7_slide_76 ?_
    refine lv_iconst (v := 1) hx hb dX7_slide_79 (by decide) ?_
    refine lv_isub hx hb dX7_slide_80 ?_
    refine lv_iload_n hx hb dX7_slide_81 rfl (lv_at hl 1 rfl) ?_
    obtain ⟨h19, hF⟩ := q_gd_e hF
    refine qs_M_X7_now hM hP hD hS h19 dX7_slide_82 (fun x20 H locs ex20 hP hD hS => ?_)
    have hF := q_let_e hF ex20
    refine lv_aload_n hx hb dX7_slide_83 rfl (lv_at hl 0 rfl) ?_
    refine qg_M_X7_now hM hP fl_X7_16 dX7_slide_84 ?_
    refine lv_bipush (v := 47) hx hb dX7_slide_87 (by decide) ?_
    refine lv_aload_n hx hb dX7_slide_89 rfl (lv_at hl 0 rfl) ?_
    refine qg_M_X7_cells hM hP fl_X7_48 dX7_slide_90 ?_
    refine lv_iadd hx hb dX7_slide_93 ?_
    refine lv_iconst (v := 0) hx hb dX7_slide_94 (by decide) ?_
    obtain ⟨h21, hF⟩ := q_gd_e hF
    refine qs_M_X7_now hM hP hD hS h21 dX7_slide_95 (fun x22 H locs ex22 hP hD hS => ?_)
    have hF := q_let_e hF ex22
    refine lv_iload_n hx hb dX7_slide_96 rfl (lv_at hl 2 rfl) ?_
    exact hRet (v5, x22) _ _ _ _ hF rfl dX7_slide_97 hP hD hS
  · have hF := q_it hF c4
    refine lv_iconst (v := -1) hx hb dX7_slide_10 (by decide) ?_
    exact hRet ((-1 : Int32), x) _ _ _ _ hF rfl dX7_slide_11 hP hD hS
theorem ky_X7_undo : q_Y yX7_undo cX7_undo 2 (some .int) 0 := ⟨cw_X7_undo, im_X7_undo, se_X7_undo, in_X7, by decide +kernel⟩
set_option maxHeartbeats 4000000 in
set_option maxRecDepth 100000 in
theorem c_X7_undo (l : Launch) (D : va_G) (cI cJ : ClassId) (g : Nat → Nat) (ad : Nat → Nat) (x : IS) (res : Int32 × IS) (hF : f_X7_undo x = some res) : q_Mi l yX7_undo cX7_undo 2 .int { frames := 0, cells := 0, slots := 0, locals := 0 } D cI cJ g (q_WM cI ad x) [.ref (ad 0)] (res.1) (q_WM cI ad (res.2)) := by
  refine q_ofi (res := res) (fun u : Int32 × IS => u.1) (fun u : Int32 × IS => (q_WM cI ad (u.2))) pl_X7 (Nat.le_of_ble_eq_true rfl) ?_
  intro p e s m args below meth c A Q hM hRet ls hl hP hD hS
  have hx := hM.1.1
  have hb := hM.1.2.1
  have hl : lv_has ls 2 [(0, .ref (ad 0))] := hl
  unfold f_X7_undo at hF
  refine lv_aload_n hx hb dX7_undo_0 rfl (lv_at hl 0 rfl) ?_
  refine qg_M_X7_changes hM hP fl_X7_54 dX7_undo_1 ?_
  refine lv_if_ne (tgt := 10) hx hb dX7_undo_4 (by decide) (fun c1 => ?_) (fun c1 => ?_)
  · have hF := q_ie hF c1
    refine lv_aload_n hx hb dX7_undo_10 rfl (lv_at hl 0 rfl) ?_
    refine lv_dup hx hb dX7_undo_11 rfl ?_
    refine qg_M_X7_changes hM hP fl_X7_54 dX7_undo_12 ?_
    refine lv_iconst (v := 1) hx hb dX7_undo_15 (by decide) ?_
    refine lv_isub hx hb dX7_undo_16 ?_
    refine qp_M_X7_changes hM hP hD hS fl_X7_54 dX7_undo_17 (fun x2 H locs ex2 hP hD hS => ?_)
    have hF := q_let_e hF ex2
    refine lv_iconst (v := 0) hx hb dX7_undo_20 (by decide) ?_
    refine lv_istore_n (lv' := [(1, .int (0 : Int32)), (0, .ref (ad 0))]) hx hb dX7_undo_21 rfl hl (by decide) rfl (fun ls hl => ?_)
    have L22 : ∀ (k : IS → Option (Int32 × IS)) (n : Nat) (v3 : Int32) (x4 : IS) (H : Heap) (locs : List Loc) (ls : Array Slot), lv_has ls 2 [(0, .ref (ad 0)), (1, .int v3)] → va_P D vwCl (q_WM cI ad x4) H → va_D A (q_WM cI ad x4) → va_S A s.heap H locs → (∀ (x5 : IS) (H : Heap) (locs : List Loc) (ls : Array Slot), lv_has ls 2 [(0, .ref (ad 0))] → va_P D vwCl (q_WM cI ad x5) H → va_D A (q_WM cI ad x5) → va_S A s.heap H locs → k x5 = some res → W p l e { frames := 0, cells := 0, slots := 0, locals := 0 } s m args below meth c H locs 0 0 Q (F0 m 54 ls [])) → f_X7_undo_L22 k n v3 x4 = some res → W p l e { frames := 0, cells := 0, slots := 0, locals := 0 } s m args below meth c H locs 0 0 Q (F0 m 22 ls []) := by
      intro k n
      induction n with
      | zero => intro v3 x4 H locs ls hl hP hD hS hk hF; exact q_no hF
      | succ n ih =>
        intro v3 x4 H locs ls hl hP hD hS hk hF
        have hF : f_X7_undo_L22F k (f_X7_undo_L22 k n) v3 x4 = some res := hF
        unfold f_X7_undo_L22F at hF
        refine lv_iload_n hx hb dX7_undo_22 rfl (lv_at hl 1 rfl) ?_
        refine lv_bipush (v := 102) hx hb dX7_undo_23 (by decide) ?_
        refine lv_icmp_ge (tgt := 54) hx hb dX7_undo_25 (by decide) (fun c6 => ?_) (fun c6 => ?_)
        · have hF := q_it hF c6
          exact hk _ _ _ _ (lv_sub hl [0] rfl) hP hD hS hF
        · have hF := q_ie hF c6
          refine lv_aload_n hx hb dX7_undo_28 rfl (lv_at hl 0 rfl) ?_
          refine qg_M_X7_now hM hP fl_X7_16 dX7_undo_29 ?_
          refine lv_iload_n hx hb dX7_undo_32 rfl (lv_at hl 1 rfl) ?_
          refine lv_aload_n hx hb dX7_undo_33 rfl (lv_at hl 0 rfl) ?_
          refine qg_M_X7_was hM hP fl_X7_19 dX7_undo_34 ?_
          refine lv_bipush (v := 102) hx hb dX7_undo_37 (by decide) ?_
          refine lv_aload_n hx hb dX7_undo_39 rfl (lv_at hl 0 rfl) ?_
          refine qg_M_X7_changes hM hP fl_X7_54 dX7_undo_40 ?_
          refine lv_imul hx hb dX7_undo_43 ?_
          refine lv_iload_n hx hb dX7_undo_44 rfl (lv_at hl 1 rfl) ?_
          refine lv_iadd hx hb dX7_undo_45 ?_
          obtain ⟨h7, hF⟩ := q_gd_e hF
          refine ql_M_X7_was hM hP h7 dX7_undo_46 ?_
          obtain ⟨h8, hF⟩ := q_gd_e hF
          refine qs_M_X7_now hM hP hD hS h8 dX7_undo_47 (fun x9 H locs ex9 hP hD hS => ?_)
          have hF := q_let_e hF ex9
          obtain ⟨v10, ev10⟩ : ∃ y : Int32, y = v3 + 1 := ⟨_, rfl⟩
          have hF := q_let_e hF ev10
          refine lv_iinc (v := v10) (lv' := [(1, .int v10), (0, .ref (ad 0))]) hx hb dX7_undo_48 hl (k := 1) rfl (by rw [ev10]; rfl) (by decide) rfl (fun ls hl => ?_)
          refine lv_goto (tgt := 22) hx hb dX7_undo_51 (by decide) ?_
          exact ih _ _ _ _ _ (lv_sub hl [1, 0] rfl) hP hD hS hk hF
    refine L22 _ _ _ _ _ _ _ (lv_sub hl [1, 0] rfl) hP hD hS ?_ hF
    clear hF
    intro x5 H locs ls hl hP hD hS hF
    refine lv_aload_n hx hb dX7_undo_54 rfl (lv_at hl 0 rfl) ?_
    refine qg_M_X7_changes hM hP fl_X7_54 dX7_undo_55 ?_
    exact hRet ((x5 7 0), x5) _ _ _ _ hF rfl dX7_undo_58 hP hD hS
  · have hF := q_it hF c1
    refine lv_bipush (v := -2) hx hb dX7_undo_7 (by decide) ?_
    exact hRet ((-2 : Int32), x) _ _ _ _ hF rfl dX7_undo_9 hP hD hS
theorem ky_X7_meets : q_Y yX7_meets cX7_meets 5 none 2 := ⟨cw_X7_meets, im_X7_meets, se_X7_meets, in_X7, by decide +kernel⟩
set_option maxHeartbeats 4000000 in
set_option maxRecDepth 100000 in
theorem c_X7_meets (l : Launch) (D : va_G) (cI cJ : ClassId) (g : Nat → Nat) (ad : Nat → Nat) (x : IS) (a1 : Int32) (a2 : Int32) (res : IS) (hF : f_X7_meets x a1 a2 = some res) : q_Mv l yX7_meets cX7_meets 5 { frames := 0, cells := 0, slots := 0, locals := 0 } D cI cJ g (q_WM cI ad x) [.ref (ad 0), .int a1, .int a2] (q_WM cI ad res) := by
  refine q_ofv (res := res) (fun u : IS => (q_WM cI ad u)) pl_X7 (Nat.le_of_ble_eq_true rfl) ?_
  intro p e s m args below meth c A Q hM hRet ls hl hP hD hS
  have hx := hM.1.1
  have hb := hM.1.2.1
  have hl : lv_has ls 5 [(0, .ref (ad 0)), (1, .int a1), (2, .int a2)] := hl
  unfold f_X7_meets at hF
  refine lv_iload_n hx hb dX7_meets_0 rfl (lv_at hl 1 rfl) ?_
  obtain ⟨J9, hJ9, hF⟩ := q_jn_e hF
  have K9 : ∀ (t2 : Int32) (H : Heap) (locs : List Loc) (ls : Array Slot), lv_has ls 5 [(0, .ref (ad 0)), (2, .int a2)] → va_P D vwCl (q_WM cI ad x) H → va_D A (q_WM cI ad x) → va_S A s.heap H locs → J9 t2 = some res → W p l e { frames := 0, cells := 0, slots := 0, locals := 0 } s m args below meth c H locs 0 0 Q (F0 m 9 ls [.int t2]) := by
    clear hF; intro t2 H locs ls hl hP hD hS hF
    rw [hJ9] at hF
    try dsimp only at hF
    refine lv_istore_n (lv' := [(3, .int t2), (0, .ref (ad 0)), (2, .int a2)]) hx hb dX7_meets_9 rfl hl (by decide) rfl (fun ls hl => ?_)
    have L10 : ∀ (k : IS → Option (IS)) (n : Nat) (v3 : Int32) (x4 : IS) (H : Heap) (locs : List Loc) (ls : Array Slot), lv_has ls 5 [(0, .ref (ad 0)), (2, .int a2), (3, .int v3)] → va_P D vwCl (q_WM cI ad x4) H → va_D A (q_WM cI ad x4) → va_S A s.heap H locs → (∀ (x5 : IS) (H : Heap) (locs : List Loc) (ls : Array Slot), lv_has ls 5 [] → va_P D vwCl (q_WM cI ad x5) H → va_D A (q_WM cI ad x5) → va_S A s.heap H locs → k x5 = some res → W p l e { frames := 0, cells := 0, slots := 0, locals := 0 } s m args below meth c H locs 0 0 Q (F0 m 115 ls [])) → f_X7_meets_L10 a2 k n v3 x4 = some res → W p l e { frames := 0, cells := 0, slots := 0, locals := 0 } s m args below meth c H locs 0 0 Q (F0 m 10 ls []) := by
      intro k n
      induction n with
      | zero => intro v3 x4 H locs ls hl hP hD hS hk hF; exact q_no hF
      | succ n ih =>
        intro v3 x4 H locs ls hl hP hD hS hk hF
        have hF : f_X7_meets_L10F a2 k (f_X7_meets_L10 a2 k n) v3 x4 = some res := hF
        unfold f_X7_meets_L10F at hF
        refine lv_iload_n hx hb dX7_meets_10 rfl (lv_at hl 2 rfl) ?_
        refine lv_iload_n hx hb dX7_meets_11 rfl (lv_at hl 1 rfl) ?_
        refine lv_icmp_gt (tgt := 115) hx hb dX7_meets_12 (by decide) (fun c6 => ?_) (fun c6 => ?_)
        · have hF := q_it hF c6
          exact hk _ _ _ _ (lv_sub hl [] rfl) hP hD hS hF
        · have hF := q_ie hF c6
          refine lv_iload_n hx hb dX7_meets_15 rfl (lv_at hl 2 rfl) ?_
          refine lv_aload_n hx hb dX7_meets_16 rfl (lv_at hl 0 rfl) ?_
          refine qg_M_X7_cells hM hP fl_X7_48 dX7_meets_17 ?_
          refine lv_icmp_ge (tgt := 115) hx hb dX7_meets_20 (by decide) (fun c7 => ?_) (fun c7 => ?_)
          · have hF := q_it hF c7
            exact hk _ _ _ _ (lv_sub hl [] rfl) hP hD hS hF
          · have hF := q_ie hF c7
            refine lv_aload_n hx hb dX7_meets_23 rfl (lv_at hl 0 rfl) ?_
            refine qg_M_X7_now hM hP fl_X7_16 dX7_meets_24 ?_
            refine lv_bipush (v := 48) hx hb dX7_meets_27 (by decide) ?_
            refine lv_iload_n hx hb dX7_meets_29 rfl (lv_at hl 2 rfl) ?_
            refine lv_iadd hx hb dX7_meets_30 ?_
            obtain ⟨h8, hF⟩ := q_gd_e hF
            refine ql_M_X7_now hM hP h8 dX7_meets_31 ?_
            obtain ⟨J109, hJ109, hF⟩ := q_jn_e hF
            have K109 : ∀ (x27 : IS) (H : Heap) (locs : List Loc) (ls : Array Slot), lv_has ls 5 [(0, .ref (ad 0)), (2, .int a2), (3, .int v3)] → va_P D vwCl (q_WM cI ad x27) H → va_D A (q_WM cI ad x27) → va_S A s.heap H locs → J109 x27 = some res → W p l e { frames := 0, cells := 0, slots := 0, locals := 0 } s m args below meth c H locs 0 0 Q (F0 m 109 ls []) := by
              clear hF; intro x27 H locs ls hl hP hD hS hF
              rw [hJ109] at hF
              try dsimp only at hF
              obtain ⟨v28, ev28⟩ : ∃ y : Int32, y = v3 + 1 := ⟨_, rfl⟩
              have hF := q_let_e hF ev28
              refine lv_iinc (v := v28) (lv' := [(3, .int v28), (0, .ref (ad 0)), (2, .int a2)]) hx hb dX7_meets_109 hl (k := 2) rfl (by rw [ev28]; rfl) (by decide) rfl (fun ls hl => ?_)
              refine lv_goto (tgt := 10) hx hb dX7_meets_112 (by decide) ?_
              exact ih _ _ _ _ _ (lv_sub hl [1, 2, 0] rfl) hP hD hS hk hF
            refine lv_if_ne (tgt := 109) hx hb dX7_meets_32 (by decide) (fun c9 => ?_) (fun c9 => ?_)
            · have hF := q_ie hF c9
              exact K109 _ _ _ _ (lv_sub hl [0, 1, 2] rfl) hP hD hS hF
            · have hF := q_it hF c9
              refine lv_aload_n hx hb dX7_meets_35 rfl (lv_at hl 0 rfl) ?_
              refine qg_M_X7_ranked hM hP fl_X7_117 dX7_meets_36 ?_
              refine lv_topi (fun v10 ev10 => ?_)
              have hF := q_let_e hF ev10
              refine lv_istore (lv' := [(4, .int v10), (0, .ref (ad 0)), (2, .int a2), (3, .int v3)]) hx hb dX7_meets_39 hl (by decide) rfl (fun ls hl => ?_)
              have L41 : ∀ (k : Int32 → IS → Option (IS)) (n : Nat) (v11 : Int32) (x13 : IS) (H : Heap) (locs : List Loc) (ls : Array Slot), lv_has ls 5 [(0, .ref (ad 0)), (2, .int a2), (3, .int v3), (4, .int v11)] → va_P D vwCl (q_WM cI ad x13) H → va_D A (q_WM cI ad x13) → va_S A s.heap H locs → (∀ (e12 : Int32) (x14 : IS) (H : Heap) (locs : List Loc) (ls : Array Slot), lv_has ls 5 [(0, .ref (ad 0)), (2, .int a2), (3, .int v3), (4, .int e12)] → va_P D vwCl (q_WM cI ad x14) H → va_D A (q_WM cI ad x14) → va_S A s.heap H locs → k e12 x14 = some res → W p l e { frames := 0, cells := 0, slots := 0, locals := 0 } s m args below meth c H locs 0 0 Q (F0 m 86 ls [])) → f_X7_meets_L41 a2 v3 k n v11 x13 = some res → W p l e { frames := 0, cells := 0, slots := 0, locals := 0 } s m args below meth c H locs 0 0 Q (F0 m 41 ls []) := by
                intro k n
                induction n with
                | zero => intro v11 x13 H locs ls hl hP hD hS hk hF; exact q_no hF
                | succ n ih =>
                  intro v11 x13 H locs ls hl hP hD hS hk hF
                  have hF : f_X7_meets_L41F a2 v3 k (f_X7_meets_L41 a2 v3 k n) v11 x13 = some res := hF
                  unfold f_X7_meets_L41F at hF
                  refine lv_iload hx hb dX7_meets_41 (lv_at hl 3 rfl) ?_
                  refine lv_if_le (tgt := 86) hx hb dX7_meets_43 (by decide) (fun c15 => ?_) (fun c15 => ?_)
                  · have hF := q_it hF c15
                    exact hk _ _ _ _ _ (lv_sub hl [0, 1, 2, 3] rfl) hP hD hS hF
                  · have hF := q_ie hF c15
                    refine lv_aload_n hx hb dX7_meets_46 rfl (lv_at hl 0 rfl) ?_
                    refine qg_M_X7_ranks hM hP fl_X7_28 dX7_meets_47 ?_
                    refine lv_iload hx hb dX7_meets_50 (lv_at hl 3 rfl) ?_
                    refine lv_iconst (v := 1) hx hb dX7_meets_52 (by decide) ?_
                    refine lv_isub hx hb dX7_meets_53 ?_
                    obtain ⟨h16, hF⟩ := q_gd_e hF
                    refine ql_M_X7_ranks hM hP h16 dX7_meets_54 ?_
                    refine lv_aload_n hx hb dX7_meets_55 rfl (lv_at hl 0 rfl) ?_
                    refine qg_M_X7_now hM hP fl_X7_16 dX7_meets_56 ?_
                    refine lv_iload_n hx hb dX7_meets_59 rfl (lv_at hl 2 rfl) ?_
                    obtain ⟨h17, hF⟩ := q_gd_e hF
                    refine ql_M_X7_now hM hP h17 dX7_meets_60 ?_
                    refine lv_icmp_le (tgt := 86) hx hb dX7_meets_61 (by decide) (fun c18 => ?_) (fun c18 => ?_)
                    · have hF := q_it hF c18
                      exact hk _ _ _ _ _ (lv_sub hl [0, 1, 2, 3] rfl) hP hD hS hF
                    · have hF := q_ie hF c18
                      refine lv_aload_n hx hb dX7_meets_64 rfl (lv_at hl 0 rfl) ?_
                      refine qg_M_X7_ranks hM hP fl_X7_28 dX7_meets_65 ?_
                      refine lv_iload hx hb dX7_meets_68 (lv_at hl 3 rfl) ?_
                      refine lv_aload_n hx hb dX7_meets_70 rfl (lv_at hl 0 rfl) ?_
                      refine qg_M_X7_ranks hM hP fl_X7_28 dX7_meets_71 ?_
                      refine lv_iload hx hb dX7_meets_74 (lv_at hl 3 rfl) ?_
                      refine lv_iconst (v := 1) hx hb dX7_meets_76 (by decide) ?_
                      refine lv_isub hx hb dX7_meets_77 ?_
                      obtain ⟨h19, hF⟩ := q_gd_e hF
                      refine ql_M_X7_ranks hM hP h19 dX7_meets_78 ?_
                      obtain ⟨h20, hF⟩ := q_gd_e hF
                      refine qs_M_X7_ranks hM hP hD hS h20 dX7_meets_79 (fun x21 H locs ex21 hP hD hS => ?_)
                      have hF := q_let_e hF ex21
                      obtain ⟨v22, ev22⟩ : ∃ y : Int32, y = v11 + (-1) := ⟨_, rfl⟩
                      have hF := q_let_e hF ev22
                      refine lv_iinc (v := v22) (lv' := [(4, .int v22), (0, .ref (ad 0)), (2, .int a2), (3, .int v3)]) hx hb dX7_meets_80 hl (k := 3) rfl (by rw [ev22]; rfl) (by decide) rfl (fun ls hl => ?_)
                      refine lv_goto (tgt := 41) hx hb dX7_meets_83 (by decide) ?_
                      exact ih _ _ _ _ _ (lv_sub hl [1, 2, 3, 0] rfl) hP hD hS hk hF
              refine L41 _ _ _ _ _ _ _ (lv_sub hl [1, 2, 3, 0] rfl) hP hD hS ?_ hF
              clear hF
              intro e12 x14 H locs ls hl hP hD hS hF
              refine lv_aload_n hx hb dX7_meets_86 rfl (lv_at hl 0 rfl) ?_
              refine qg_M_X7_ranks hM hP fl_X7_28 dX7_meets_87 ?_
              refine lv_iload hx hb dX7_meets_90 (lv_at hl 3 rfl) ?_
              refine lv_aload_n hx hb dX7_meets_92 rfl (lv_at hl 0 rfl) ?_
              refine qg_M_X7_now hM hP fl_X7_16 dX7_meets_93 ?_
              refine lv_iload_n hx hb dX7_meets_96 rfl (lv_at hl 2 rfl) ?_
              obtain ⟨h23, hF⟩ := q_gd_e hF
              refine ql_M_X7_now hM hP h23 dX7_meets_97 ?_
              obtain ⟨h24, hF⟩ := q_gd_e hF
              refine qs_M_X7_ranks hM hP hD hS h24 dX7_meets_98 (fun x25 H locs ex25 hP hD hS => ?_)
              have hF := q_let_e hF ex25
              refine lv_aload_n hx hb dX7_meets_99 rfl (lv_at hl 0 rfl) ?_
              refine lv_dup hx hb dX7_meets_100 rfl ?_
              refine qg_M_X7_ranked hM hP fl_X7_117 dX7_meets_101 ?_
              refine lv_iconst (v := 1) hx hb dX7_meets_104 (by decide) ?_
              refine lv_iadd hx hb dX7_meets_105 ?_
              refine qp_M_X7_ranked hM hP hD hS fl_X7_117 dX7_meets_106 (fun x26 H locs ex26 hP hD hS => ?_)
              have hF := q_let_e hF ex26
              exact K109 _ _ _ _ (lv_sub hl [0, 1, 2] rfl) hP hD hS hF
    refine L10 _ _ _ _ _ _ _ (lv_sub hl [1, 2, 0] rfl) hP hD hS ?_ hF
    clear hF
    intro x5 H locs ls hl hP hD hS hF
    exact hRet _ _ _ _ _ hF dX7_meets_115 hP hD hS
  refine lv_if_ge (tgt := 8) hx hb dX7_meets_1 (by decide) (fun c1 => ?_) (fun c1 => ?_)
  · have hF := q_it hF c1
    refine lv_iload_n hx hb dX7_meets_8 rfl (lv_at hl 1 rfl) ?_
    exact K9 _ _ _ _ (lv_sub hl [0, 2] rfl) hP hD hS hF
  · have hF := q_ie hF c1
    refine lv_iconst (v := 0) hx hb dX7_meets_4 (by decide) ?_
    refine lv_goto (tgt := 9) hx hb dX7_meets_5 (by decide) ?_
    exact K9 _ _ _ _ (lv_sub hl [0, 2] rfl) hP hD hS hF
theorem ky_X7_rank : q_Y yX7_rank cX7_rank 5 (some .int) 2 := ⟨cw_X7_rank, im_X7_rank, se_X7_rank, in_X7, by decide +kernel⟩
set_option maxHeartbeats 4000000 in
set_option maxRecDepth 100000 in
theorem c_X7_rank (l : Launch) (D : va_G) (cI cJ : ClassId) (g : Nat → Nat) (ad : Nat → Nat) (x : IS) (a1 : Int32) (a2 : Int32) (res : Int32 × IS) (hF : f_X7_rank x a1 a2 = some res) : q_Mi l yX7_rank cX7_rank 5 .int { frames := 1, cells := 0, slots := 0, locals := 24 } D cI cJ g (q_WM cI ad x) [.ref (ad 0), .int a1, .int a2] (res.1) (q_WM cI ad (res.2)) := by
  refine q_ofi (res := res) (fun u : Int32 × IS => u.1) (fun u : Int32 × IS => (q_WM cI ad (u.2))) pl_X7 (Nat.le_of_ble_eq_true rfl) ?_
  intro p e s m args below meth c A Q hM hRet ls hl hP hD hS
  have hx := hM.1.1
  have hb := hM.1.2.1
  have hl : lv_has ls 5 [(0, .ref (ad 0)), (1, .int a1), (2, .int a2)] := hl
  unfold f_X7_rank at hF
  refine lv_aload_n hx hb dX7_rank_0 rfl (lv_at hl 0 rfl) ?_
  refine qg_M_X7_now hM hP fl_X7_16 dX7_rank_1 ?_
  refine lv_bipush (v := 96) hx hb dX7_rank_4 (by decide) ?_
  refine ql_M_X7_now hM hP (by decide) dX7_rank_6 ?_
  refine lv_topi (fun v1 ev1 => ?_)
  have hF := q_let_e hF ev1
  refine lv_istore_n (lv' := [(3, .int v1), (0, .ref (ad 0)), (1, .int a1), (2, .int a2)]) hx hb dX7_rank_7 rfl hl (by decide) rfl (fun ls hl => ?_)
  refine lv_aload_n hx hb dX7_rank_8 rfl (lv_at hl 1 rfl) ?_
  refine qg_M_X7_now hM hP fl_X7_16 dX7_rank_9 ?_
  refine lv_bipush (v := 97) hx hb dX7_rank_12 (by decide) ?_
  refine ql_M_X7_now hM hP (by decide) dX7_rank_14 ?_
  refine lv_topi (fun v2 ev2 => ?_)
  have hF := q_let_e hF ev2
  refine lv_istore (lv' := [(4, .int v2), (3, .int v1), (0, .ref (ad 0)), (1, .int a1), (2, .int a2)]) hx hb dX7_rank_15 hl (by decide) rfl (fun ls hl => ?_)
  refine lv_aload_n hx hb dX7_rank_17 rfl (lv_at hl 2 rfl) ?_
  refine lv_iconst (v := 0) hx hb dX7_rank_18 (by decide) ?_
  refine qp_M_X7_ranked hM hP hD hS fl_X7_117 dX7_rank_19 (fun x3 H locs ex3 hP hD hS => ?_)
  have hF := q_let_e hF ex3
  refine lv_iload_n hx hb dX7_rank_22 rfl (lv_at hl 4 rfl) ?_
  refine lv_iconst (v := 1) hx hb dX7_rank_23 (by decide) ?_
  obtain ⟨J43, hJ43, hF⟩ := q_jn_e hF
  have K43 : ∀ (x7 : IS) (H : Heap) (locs : List Loc) (ls : Array Slot), lv_has ls 5 [(0, .ref (ad 0)), (1, .int a1), (2, .int a2), (3, .int v1), (4, .int v2)] → va_P D vwCl (q_WM cI ad x7) H → va_D A (q_WM cI ad x7) → va_S A s.heap H locs → J43 x7 = some res → W p l e { frames := 1, cells := 0, slots := 0, locals := 24 } s m args below meth c H locs 0 0 Q (F0 m 43 ls []) := by
    clear hF; intro x7 H locs ls hl hP hD hS hF
    rw [hJ43] at hF
    try dsimp only at hF
    refine lv_iload_n hx hb dX7_rank_43 rfl (lv_at hl 2 rfl) ?_
    refine lv_if_eq (tgt := 63) hx hb dX7_rank_44 (by decide) (fun c8 => ?_) (fun c8 => ?_)
    · have hF := q_it hF c8
      refine lv_aload_n hx hb dX7_rank_63 rfl (lv_at hl 0 rfl) ?_
      refine qg_M_X7_ranked hM hP fl_X7_117 dX7_rank_64 ?_
      exact hRet ((x7 14 0), x7) _ _ _ _ hF rfl dX7_rank_67 hP hD hS
    · have hF := q_ie hF c8
      refine lv_aload_n hx hb dX7_rank_47 rfl (lv_at hl 0 rfl) ?_
      refine lv_iload_n hx hb dX7_rank_48 rfl (lv_at hl 1 rfl) ?_
      refine lv_iload hx hb dX7_rank_49 (lv_at hl 4 rfl) ?_
      refine lv_iadd hx hb dX7_rank_51 ?_
      refine lv_iconst (v := 1) hx hb dX7_rank_52 (by decide) ?_
      refine lv_iadd hx hb dX7_rank_53 ?_
      refine lv_iload_n hx hb dX7_rank_54 rfl (lv_at hl 1 rfl) ?_
      refine lv_iload hx hb dX7_rank_55 (lv_at hl 4 rfl) ?_
      refine lv_iadd hx hb dX7_rank_57 ?_
      refine lv_iload_n hx hb dX7_rank_58 rfl (lv_at hl 3 rfl) ?_
      refine lv_iadd hx hb dX7_rank_59 ?_
      obtain ⟨x9, hC10, hF⟩ := q_b1_e hF
      refine q_callv hM (c_X7_meets l D cI cJ g ad _ _ _ _ hC10) hP hD hS ky_X7_meets ml_X7_120 rfl rfl ⟨Nat.le_of_ble_eq_true rfl, Nat.le_of_ble_eq_true rfl⟩ 0 rfl rfl rfl hl.1 rfl (Nat.le_of_ble_eq_true rfl) ⟨Nat.zero_le _, Nat.zero_le _⟩ dX7_rank_60 (fun H locs hP hD hS => ?_)
      refine lv_aload_n hx hb dX7_rank_63 rfl (lv_at hl 0 rfl) ?_
      refine qg_M_X7_ranked hM hP fl_X7_117 dX7_rank_64 ?_
      exact hRet ((x9 14 0), x9) _ _ _ _ hF rfl dX7_rank_67 hP hD hS
  refine lv_icmp_eq (tgt := 43) hx hb dX7_rank_24 (by decide) (fun c4 => ?_) (fun c4 => ?_)
  · have hF := q_it hF c4
    exact K43 _ _ _ _ (lv_sub hl [2, 3, 4, 1, 0] rfl) hP hD hS hF
  · have hF := q_ie hF c4
    refine lv_aload_n hx hb dX7_rank_27 rfl (lv_at hl 2 rfl) ?_
    refine lv_iload_n hx hb dX7_rank_28 rfl (lv_at hl 3 rfl) ?_
    refine lv_iload hx hb dX7_rank_29 (lv_at hl 0 rfl) ?_
    refine lv_isub hx hb dX7_rank_31 ?_
    refine lv_iload_n hx hb dX7_rank_32 rfl (lv_at hl 1 rfl) ?_
    refine lv_isub hx hb dX7_rank_33 ?_
    refine lv_iload_n hx hb dX7_rank_34 rfl (lv_at hl 3 rfl) ?_
    refine lv_iload hx hb dX7_rank_35 (lv_at hl 0 rfl) ?_
    refine lv_isub hx hb dX7_rank_37 ?_
    refine lv_iconst (v := 1) hx hb dX7_rank_38 (by decide) ?_
    refine lv_isub hx hb dX7_rank_39 ?_
    obtain ⟨x5, hC6, hF⟩ := q_b1_e hF
    refine q_callv hM (c_X7_meets l D cI cJ g ad _ _ _ _ hC6) hP hD hS ky_X7_meets ml_X7_120 rfl rfl ⟨Nat.le_of_ble_eq_true rfl, Nat.le_of_ble_eq_true rfl⟩ 0 rfl rfl rfl hl.1 rfl (Nat.le_of_ble_eq_true rfl) ⟨Nat.zero_le _, Nat.zero_le _⟩ dX7_rank_40 (fun H locs hP hD hS => ?_)
    exact K43 _ _ _ _ (lv_sub hl [2, 3, 4, 1, 0] rfl) hP hD hS hF
theorem ky_X7_byRank : q_Y yX7_byRank cX7_byRank 4 (some .int) 2 := ⟨cw_X7_byRank, im_X7_byRank, se_X7_byRank, in_X7, by decide +kernel⟩
set_option maxHeartbeats 4000000 in
set_option maxRecDepth 100000 in
theorem c_X7_byRank (l : Launch) (D : va_G) (cI cJ : ClassId) (g : Nat → Nat) (ad : Nat → Nat) (x : IS) (a1 : Int32) (a2 : Int32) (res : Int32 × IS) (hF : f_X7_byRank x a1 a2 = some res) : q_Mi l yX7_byRank cX7_byRank 4 .int { frames := 2, cells := 0, slots := 0, locals := 48 } D cI cJ g (q_WM cI ad x) [.ref (ad 0), .int a1, .int a2] (res.1) (q_WM cI ad (res.2)) := by
  refine q_ofi (res := res) (fun u : Int32 × IS => u.1) (fun u : Int32 × IS => (q_WM cI ad (u.2))) pl_X7 (Nat.le_of_ble_eq_true rfl) ?_
  intro p e s m args below meth c A Q hM hRet ls hl hP hD hS
  have hx := hM.1.1
  have hb := hM.1.2.1
  have hl : lv_has ls 4 [(0, .ref (ad 0)), (1, .int a1), (2, .int a2)] := hl
  unfold f_X7_byRank at hF
  refine lv_aload_n hx hb dX7_byRank_0 rfl (lv_at hl 0 rfl) ?_
  refine lv_iload_n hx hb dX7_byRank_1 rfl (lv_at hl 1 rfl) ?_
  refine lv_iload_n hx hb dX7_byRank_2 rfl (lv_at hl 2 rfl) ?_
  obtain ⟨r1, x2, hC3, hF⟩ := q_b2_e hF
  refine q_calli hM (c_X7_rank l D cI cJ g ad _ _ _ _ hC3) hP hD hS ky_X7_rank ml_X7_124 rfl rfl ⟨Nat.le_of_ble_eq_true rfl, Nat.le_of_ble_eq_true rfl⟩ 0 rfl rfl rfl hl.1 rfl (Nat.le_of_ble_eq_true rfl) ⟨Nat.zero_le _, Nat.zero_le _⟩ dX7_byRank_3 (fun H locs hz4 hP hD hS => ?_)
  refine lv_istore_n (lv' := [(3, .int r1), (0, .ref (ad 0)), (1, .int a1), (2, .int a2)]) hx hb dX7_byRank_6 rfl hl (by decide) rfl (fun ls hl => ?_)
  refine lv_iload_n hx hb dX7_byRank_7 rfl (lv_at hl 0 rfl) ?_
  refine lv_if_ne (tgt := 16) hx hb dX7_byRank_8 (by decide) (fun c5 => ?_) (fun c5 => ?_)
  · have hF := q_ie hF c5
    refine lv_aload_n hx hb dX7_byRank_16 rfl (lv_at hl 1 rfl) ?_
    refine qg_M_X7_ranks hM hP fl_X7_28 dX7_byRank_17 ?_
    refine lv_iload_n hx hb dX7_byRank_20 rfl (lv_at hl 0 rfl) ?_
    refine lv_aload_n hx hb dX7_byRank_21 rfl (lv_at hl 1 rfl) ?_
    refine qg_M_X7_now hM hP fl_X7_16 dX7_byRank_22 ?_
    refine lv_bipush (v := 98) hx hb dX7_byRank_25 (by decide) ?_
    refine ql_M_X7_now hM hP (by decide) dX7_byRank_27 ?_
    obtain ⟨J46, hJ46, hF⟩ := q_jn_e hF
    have K46 : ∀ (t7 : Int32) (H : Heap) (locs : List Loc) (ls : Array Slot), lv_has ls 4 [] → va_P D vwCl (q_WM cI ad x2) H → va_D A (q_WM cI ad x2) → va_S A s.heap H locs → J46 t7 = some res → W p l e { frames := 2, cells := 0, slots := 0, locals := 48 } s m args below meth c H locs 0 0 Q (F0 m 46 ls [.int t7, .ref (ad 7)]) := by
      clear hF; intro t7 H locs ls hl hP hD hS hF
      rw [hJ46] at hF
      try dsimp only at hF
      obtain ⟨h8, hF⟩ := q_gd_e hF
      refine ql_M_X7_ranks hM hP h8 dX7_byRank_46 ?_
      exact hRet ((x2 13 t7.toNatClampNeg), x2) _ _ _ _ hF rfl dX7_byRank_47 hP hD hS
    refine lv_icmp_ge (tgt := 37) hx hb dX7_byRank_28 (by decide) (fun c6 => ?_) (fun c6 => ?_)
    · have hF := q_it hF c6
      refine lv_aload_n hx hb dX7_byRank_37 rfl (lv_at hl 1 rfl) ?_
      refine qg_M_X7_now hM hP fl_X7_16 dX7_byRank_38 ?_
      refine lv_bipush (v := 98) hx hb dX7_byRank_41 (by decide) ?_
      refine ql_M_X7_now hM hP (by decide) dX7_byRank_43 ?_
      refine lv_iconst (v := 1) hx hb dX7_byRank_44 (by decide) ?_
      refine lv_isub hx hb dX7_byRank_45 ?_
      exact K46 _ _ _ _ (lv_sub hl [] rfl) hP hD hS hF
    · have hF := q_ie hF c6
      refine lv_iload_n hx hb dX7_byRank_31 rfl (lv_at hl 0 rfl) ?_
      refine lv_iconst (v := 1) hx hb dX7_byRank_32 (by decide) ?_
      refine lv_isub hx hb dX7_byRank_33 ?_
      refine lv_goto (tgt := 46) hx hb dX7_byRank_34 (by decide) ?_
      exact K46 _ _ _ _ (lv_sub hl [] rfl) hP hD hS hF
  · have hF := q_it hF c5
    refine lv_bipush (v := -4) hx hb dX7_byRank_11 (by decide) ?_
    refine lv_goto (tgt := 47) hx hb dX7_byRank_13 (by decide) ?_
    exact hRet ((-4 : Int32), x2) _ _ _ _ hF rfl dX7_byRank_47 hP hD hS
theorem ky_X7_floorOf : q_Y yX7_floorOf cX7_floorOf 4 (some .int) 1 := ⟨cw_X7_floorOf, im_X7_floorOf, se_X7_floorOf, in_X7, by decide +kernel⟩
set_option maxHeartbeats 4000000 in
set_option maxRecDepth 100000 in
theorem c_X7_floorOf (l : Launch) (D : va_G) (cI cJ : ClassId) (g : Nat → Nat) (ad : Nat → Nat) (x : IS) (a1 : Int32) (res : Int32 × IS) (hF : f_X7_floorOf x a1 = some res) : q_Mi l yX7_floorOf cX7_floorOf 4 .int { frames := 3, cells := 0, slots := 0, locals := 71 } D cI cJ g (q_WM cI ad x) [.ref (ad 0), .int a1] (res.1) (q_WM cI ad (res.2)) := by
  refine q_ofi (res := res) (fun u : Int32 × IS => u.1) (fun u : Int32 × IS => (q_WM cI ad (u.2))) pl_X7 (Nat.le_of_ble_eq_true rfl) ?_
  intro p e s m args below meth c A Q hM hRet ls hl hP hD hS
  have hx := hM.1.1
  have hb := hM.1.2.1
  have hl : lv_has ls 4 [(0, .ref (ad 0)), (1, .int a1)] := hl
  unfold f_X7_floorOf at hF
  refine lv_aload_n hx hb dX7_floorOf_0 rfl (lv_at hl 0 rfl) ?_
  refine qg_M_X7_now hM hP fl_X7_16 dX7_floorOf_1 ?_
  refine lv_bipush (v := 101) hx hb dX7_floorOf_4 (by decide) ?_
  refine ql_M_X7_now hM hP (by decide) dX7_floorOf_6 ?_
  refine lv_if_ne (tgt := 17) hx hb dX7_floorOf_7 (by decide) (fun c1 => ?_) (fun c1 => ?_)
  · have hF := q_ie hF c1
    refine lv_aload_n hx hb dX7_floorOf_17 rfl (lv_at hl 0 rfl) ?_
    refine lv_iload_n hx hb dX7_floorOf_18 rfl (lv_at hl 1 rfl) ?_
    refine lv_iconst (v := 0) hx hb dX7_floorOf_19 (by decide) ?_
    obtain ⟨r2, x3, hC4, hF⟩ := q_b2_e hF
    refine q_calli hM (c_X7_byRank l D cI cJ g ad _ _ _ _ hC4) hP hD hS ky_X7_byRank ml_X7_127 rfl rfl ⟨Nat.le_of_ble_eq_true rfl, Nat.le_of_ble_eq_true rfl⟩ 0 rfl rfl rfl hl.1 rfl (Nat.le_of_ble_eq_true rfl) ⟨Nat.zero_le _, Nat.zero_le _⟩ dX7_floorOf_20 (fun H locs hz5 hP hD hS => ?_)
    refine lv_istore_n (lv' := [(2, .int r2), (0, .ref (ad 0)), (1, .int a1)]) hx hb dX7_floorOf_23 rfl hl (by decide) rfl (fun ls hl => ?_)
    refine lv_aload_n hx hb dX7_floorOf_24 rfl (lv_at hl 1 rfl) ?_
    refine lv_iload_n hx hb dX7_floorOf_25 rfl (lv_at hl 2 rfl) ?_
    refine lv_iconst (v := 1) hx hb dX7_floorOf_26 (by decide) ?_
    obtain ⟨r6, x7, hC8, hF⟩ := q_b2_e hF
    refine q_calli hM (c_X7_byRank l D cI cJ g ad _ _ _ _ hC8) hP hD hS ky_X7_byRank ml_X7_127 rfl rfl ⟨Nat.le_of_ble_eq_true rfl, Nat.le_of_ble_eq_true rfl⟩ 0 rfl rfl rfl hl.1 rfl (Nat.le_of_ble_eq_true rfl) ⟨Nat.zero_le _, Nat.zero_le _⟩ dX7_floorOf_27 (fun H locs hz9 hP hD hS => ?_)
    refine lv_istore_n (lv' := [(3, .int r6), (2, .int r2), (0, .ref (ad 0)), (1, .int a1)]) hx hb dX7_floorOf_30 rfl hl (by decide) rfl (fun ls hl => ?_)
    refine lv_iload_n hx hb dX7_floorOf_31 rfl (lv_at hl 1 rfl) ?_
    obtain ⟨J39, hJ39, hF⟩ := q_jn_e hF
    have K39 : ∀ (H : Heap) (locs : List Loc) (ls : Array Slot), lv_has ls 4 [(2, .int r2), (3, .int r6)] → va_P D vwCl (q_WM cI ad x7) H → va_D A (q_WM cI ad x7) → va_S A s.heap H locs → J39 = some res → W p l e { frames := 3, cells := 0, slots := 0, locals := 71 } s m args below meth c H locs 0 0 Q (F0 m 39 ls []) := by
      clear hF; intro H locs ls hl hP hD hS hF
      rw [hJ39] at hF
      refine lv_iload_n hx hb dX7_floorOf_39 rfl (lv_at hl 0 rfl) ?_
      refine lv_if_ge (tgt := 47) hx hb dX7_floorOf_40 (by decide) (fun c17 => ?_) (fun c17 => ?_)
      · have hF := q_it hF c17
        refine lv_iload_n hx hb dX7_floorOf_47 rfl (lv_at hl 0 rfl) ?_
        exact hRet (r2, x7) _ _ _ _ hF rfl dX7_floorOf_48 hP hD hS
      · have hF := q_ie hF c17
        refine lv_iload_n hx hb dX7_floorOf_43 rfl (lv_at hl 1 rfl) ?_
        refine lv_goto (tgt := 48) hx hb dX7_floorOf_44 (by decide) ?_
        exact hRet (r6, x7) _ _ _ _ hF rfl dX7_floorOf_48 hP hD hS
    refine lv_if_lt (tgt := 39) hx hb dX7_floorOf_32 (by decide) (fun c10 => ?_) (fun c10 => ?_)
    · have hF := q_it hF c10
      exact K39 _ _ _ (lv_sub hl [1, 0] rfl) hP hD hS hF
    · have hF := q_ie hF c10
      refine lv_iload_n hx hb dX7_floorOf_35 rfl (lv_at hl 0 rfl) ?_
      refine lv_if_ge (tgt := 49) hx hb dX7_floorOf_36 (by decide) (fun c11 => ?_) (fun c11 => ?_)
      · have hF := q_it hF c11
        refine lv_iload_n hx hb dX7_floorOf_49 rfl (lv_at hl 1 rfl) ?_
        refine lv_iload_n hx hb dX7_floorOf_50 rfl (lv_at hl 0 rfl) ?_
        obtain ⟨J59, hJ59, hF⟩ := q_jn_e hF
        have K59 : ∀ (t13 : Int32) (H : Heap) (locs : List Loc) (ls : Array Slot), lv_has ls 4 [(0, .ref (ad 0)), (2, .int r2), (3, .int r6)] → va_P D vwCl (q_WM cI ad x7) H → va_D A (q_WM cI ad x7) → va_S A s.heap H locs → J59 t13 = some res → W p l e { frames := 3, cells := 0, slots := 0, locals := 71 } s m args below meth c H locs 0 0 Q (F0 m 59 ls [.int t13]) := by
          clear hF; intro t13 H locs ls hl hP hD hS hF
          rw [hJ59] at hF
          try dsimp only at hF
          refine lv_aload_n hx hb dX7_floorOf_59 rfl (lv_at hl 0 rfl) ?_
          refine qg_M_X7_now hM hP fl_X7_16 dX7_floorOf_60 ?_
          refine lv_bipush (v := 101) hx hb dX7_floorOf_63 (by decide) ?_
          refine ql_M_X7_now hM hP (by decide) dX7_floorOf_65 ?_
          refine lv_iconst (v := 1) hx hb dX7_floorOf_66 (by decide) ?_
          obtain ⟨J75, hJ75, hF⟩ := q_jn_e hF
          have K75 : ∀ (t15 : Int32) (H : Heap) (locs : List Loc) (ls : Array Slot), lv_has ls 4 [(2, .int r2), (3, .int r6)] → va_P D vwCl (q_WM cI ad x7) H → va_D A (q_WM cI ad x7) → va_S A s.heap H locs → J75 t15 = some res → W p l e { frames := 3, cells := 0, slots := 0, locals := 71 } s m args below meth c H locs 0 0 Q (F0 m 75 ls [.int t15, .int t13]) := by
            clear hF; intro t15 H locs ls hl hP hD hS hF
            rw [hJ75] at hF
            try dsimp only at hF
            refine lv_icmp_ne (tgt := 82) hx hb dX7_floorOf_75 (by decide) (fun c16 => ?_) (fun c16 => ?_)
            · have hF := q_ie hF c16
              refine lv_iload_n hx hb dX7_floorOf_82 rfl (lv_at hl 1 rfl) ?_
              exact hRet (r6, x7) _ _ _ _ hF rfl dX7_floorOf_83 hP hD hS
            · have hF := q_it hF c16
              refine lv_iload_n hx hb dX7_floorOf_78 rfl (lv_at hl 0 rfl) ?_
              refine lv_goto (tgt := 83) hx hb dX7_floorOf_79 (by decide) ?_
              exact hRet (r2, x7) _ _ _ _ hF rfl dX7_floorOf_83 hP hD hS
          refine lv_icmp_ne (tgt := 74) hx hb dX7_floorOf_67 (by decide) (fun c14 => ?_) (fun c14 => ?_)
          · have hF := q_ie hF c14
            refine lv_iconst (v := 0) hx hb dX7_floorOf_74 (by decide) ?_
            exact K75 _ _ _ _ (lv_sub hl [1, 2] rfl) hP hD hS hF
          · have hF := q_it hF c14
            refine lv_iconst (v := 1) hx hb dX7_floorOf_70 (by decide) ?_
            refine lv_goto (tgt := 75) hx hb dX7_floorOf_71 (by decide) ?_
            exact K75 _ _ _ _ (lv_sub hl [1, 2] rfl) hP hD hS hF
        refine lv_icmp_le (tgt := 58) hx hb dX7_floorOf_51 (by decide) (fun c12 => ?_) (fun c12 => ?_)
        · have hF := q_it hF c12
          refine lv_iconst (v := 0) hx hb dX7_floorOf_58 (by decide) ?_
          exact K59 _ _ _ _ (lv_sub hl [2, 1, 0] rfl) hP hD hS hF
        · have hF := q_ie hF c12
          refine lv_iconst (v := 1) hx hb dX7_floorOf_54 (by decide) ?_
          refine lv_goto (tgt := 59) hx hb dX7_floorOf_55 (by decide) ?_
          exact K59 _ _ _ _ (lv_sub hl [2, 1, 0] rfl) hP hD hS hF
      · have hF := q_ie hF c11
        exact K39 _ _ _ (lv_sub hl [1, 0] rfl) hP hD hS hF
  · have hF := q_it hF c1
    refine lv_aload_n hx hb dX7_floorOf_10 rfl (lv_at hl 0 rfl) ?_
    refine lv_iload_n hx hb dX7_floorOf_11 rfl (lv_at hl 1 rfl) ?_
    refine lv_iconst (v := 2) hx hb dX7_floorOf_12 (by decide) ?_
    obtain ⟨r18, x19, hC20, hF⟩ := q_b2_e hF
    refine q_calli hM (c_X7_byRank l D cI cJ g ad _ _ _ _ hC20) hP hD hS ky_X7_byRank ml_X7_127 rfl rfl ⟨Nat.le_of_ble_eq_true rfl, Nat.le_of_ble_eq_true rfl⟩ 0 rfl rfl rfl hl.1 rfl (Nat.le_of_ble_eq_true rfl) ⟨Nat.zero_le _, Nat.zero_le _⟩ dX7_floorOf_13 (fun H locs hz21 hP hD hS => ?_)
    exact hRet (r18, x19) _ _ _ _ hF rfl dX7_floorOf_16 hP hD hS
theorem ky_X7_isAlarm : q_Y yX7_isAlarm cX7_isAlarm 3 (some .boolean) 1 := ⟨cw_X7_isAlarm, im_X7_isAlarm, se_X7_isAlarm, in_X7, by decide +kernel⟩
set_option maxHeartbeats 4000000 in
set_option maxRecDepth 100000 in
theorem c_X7_isAlarm (l : Launch) (D : va_G) (cI cJ : ClassId) (g : Nat → Nat) (ad : Nat → Nat) (x : IS) (a1 : Int32) (res : Int32 × IS) (hF : f_X7_isAlarm x a1 = some res) : q_Mi l yX7_isAlarm cX7_isAlarm 3 .boolean { frames := 4, cells := 0, slots := 0, locals := 94 } D cI cJ g (q_WM cI ad x) [.ref (ad 0), .int a1] (res.1) (q_WM cI ad (res.2)) := by
  refine q_ofi (res := res) (fun u : Int32 × IS => u.1) (fun u : Int32 × IS => (q_WM cI ad (u.2))) pl_X7 (Nat.le_of_ble_eq_true rfl) ?_
  intro p e s m args below meth c A Q hM hRet ls hl hP hD hS
  have hx := hM.1.1
  have hb := hM.1.2.1
  have hl : lv_has ls 3 [(0, .ref (ad 0)), (1, .int a1)] := hl
  unfold f_X7_isAlarm at hF
  refine lv_aload_n hx hb dX7_isAlarm_0 rfl (lv_at hl 0 rfl) ?_
  refine lv_iload_n hx hb dX7_isAlarm_1 rfl (lv_at hl 1 rfl) ?_
  obtain ⟨r1, x2, hC3, hF⟩ := q_b2_e hF
  refine q_calli hM (c_X7_floorOf l D cI cJ g ad _ _ _ hC3) hP hD hS ky_X7_floorOf ml_X7_130 rfl rfl ⟨Nat.le_of_ble_eq_true rfl, Nat.le_of_ble_eq_true rfl⟩ 0 rfl rfl rfl hl.1 rfl (Nat.le_of_ble_eq_true rfl) ⟨Nat.zero_le _, Nat.zero_le _⟩ dX7_isAlarm_2 (fun H locs hz4 hP hD hS => ?_)
  refine lv_istore_n (lv' := [(2, .int r1), (0, .ref (ad 0)), (1, .int a1)]) hx hb dX7_isAlarm_5 rfl hl (by decide) rfl (fun ls hl => ?_)
  refine lv_aload_n hx hb dX7_isAlarm_6 rfl (lv_at hl 1 rfl) ?_
  refine qg_M_X7_now hM hP fl_X7_16 dX7_isAlarm_7 ?_
  refine lv_bipush (v := 48) hx hb dX7_isAlarm_10 (by decide) ?_
  refine lv_iload_n hx hb dX7_isAlarm_12 rfl (lv_at hl 2 rfl) ?_
  refine lv_iadd hx hb dX7_isAlarm_13 ?_
  obtain ⟨h5, hF⟩ := q_gd_e hF
  refine ql_M_X7_now hM hP h5 dX7_isAlarm_14 ?_
  refine lv_if_ne (tgt := 52) hx hb dX7_isAlarm_15 (by decide) (fun c6 => ?_) (fun c6 => ?_)
  · have hF := q_ie hF c6
    refine lv_iconst (v := 0) hx hb dX7_isAlarm_52 (by decide) ?_
    exact hRet ((0 : Int32), x2) _ _ _ _ hF narrow_b0 dX7_isAlarm_53 hP hD hS
  · have hF := q_it hF c6
    refine lv_iload_n hx hb dX7_isAlarm_18 rfl (lv_at hl 0 rfl) ?_
    refine lv_if_lt (tgt := 52) hx hb dX7_isAlarm_19 (by decide) (fun c7 => ?_) (fun c7 => ?_)
    · have hF := q_it hF c7
      refine lv_iconst (v := 0) hx hb dX7_isAlarm_52 (by decide) ?_
      exact hRet ((0 : Int32), x2) _ _ _ _ hF narrow_b0 dX7_isAlarm_53 hP hD hS
    · have hF := q_ie hF c7
      refine lv_aload_n hx hb dX7_isAlarm_22 rfl (lv_at hl 1 rfl) ?_
      refine qg_M_X7_now hM hP fl_X7_16 dX7_isAlarm_23 ?_
      refine lv_bipush (v := 100) hx hb dX7_isAlarm_26 (by decide) ?_
      refine ql_M_X7_now hM hP (by decide) dX7_isAlarm_28 ?_
      refine lv_aload_n hx hb dX7_isAlarm_29 rfl (lv_at hl 1 rfl) ?_
      refine qg_M_X7_now hM hP fl_X7_16 dX7_isAlarm_30 ?_
      refine lv_iload_n hx hb dX7_isAlarm_33 rfl (lv_at hl 2 rfl) ?_
      obtain ⟨h8, hF⟩ := q_gd_e hF
      refine ql_M_X7_now hM hP h8 dX7_isAlarm_34 ?_
      refine lv_imul hx hb dX7_isAlarm_35 ?_
      refine lv_aload_n hx hb dX7_isAlarm_36 rfl (lv_at hl 1 rfl) ?_
      refine qg_M_X7_now hM hP fl_X7_16 dX7_isAlarm_37 ?_
      refine lv_bipush (v := 99) hx hb dX7_isAlarm_40 (by decide) ?_
      refine ql_M_X7_now hM hP (by decide) dX7_isAlarm_42 ?_
      refine lv_iload_n hx hb dX7_isAlarm_43 rfl (lv_at hl 0 rfl) ?_
      refine lv_imul hx hb dX7_isAlarm_44 ?_
      refine lv_icmp_le (tgt := 52) hx hb dX7_isAlarm_45 (by decide) (fun c9 => ?_) (fun c9 => ?_)
      · have hF := q_it hF c9
        refine lv_iconst (v := 0) hx hb dX7_isAlarm_52 (by decide) ?_
        exact hRet ((0 : Int32), x2) _ _ _ _ hF narrow_b0 dX7_isAlarm_53 hP hD hS
      · have hF := q_ie hF c9
        refine lv_iconst (v := 1) hx hb dX7_isAlarm_48 (by decide) ?_
        refine lv_goto (tgt := 53) hx hb dX7_isAlarm_49 (by decide) ?_
        exact hRet ((1 : Int32), x2) _ _ _ _ hF narrow_b1 dX7_isAlarm_53 hP hD hS
theorem ky_X7_alarms : q_Y yX7_alarms cX7_alarms 3 (some .int) 0 := ⟨cw_X7_alarms, im_X7_alarms, se_X7_alarms, in_X7, by decide +kernel⟩
set_option maxHeartbeats 4000000 in
set_option maxRecDepth 100000 in
theorem c_X7_alarms (l : Launch) (D : va_G) (cI cJ : ClassId) (g : Nat → Nat) (ad : Nat → Nat) (x : IS) (res : Int32 × IS) (hF : f_X7_alarms x = some res) : q_Mi l yX7_alarms cX7_alarms 3 .int { frames := 5, cells := 0, slots := 0, locals := 116 } D cI cJ g (q_WM cI ad x) [.ref (ad 0)] (res.1) (q_WM cI ad (res.2)) := by
  refine q_ofi (res := res) (fun u : Int32 × IS => u.1) (fun u : Int32 × IS => (q_WM cI ad (u.2))) pl_X7 (Nat.le_of_ble_eq_true rfl) ?_
  intro p e s m args below meth c A Q hM hRet ls hl hP hD hS
  have hx := hM.1.1
  have hb := hM.1.2.1
  have hl : lv_has ls 3 [(0, .ref (ad 0))] := hl
  unfold f_X7_alarms at hF
  refine lv_iconst (v := 0) hx hb dX7_alarms_0 (by decide) ?_
  refine lv_istore_n (lv' := [(1, .int (0 : Int32)), (0, .ref (ad 0))]) hx hb dX7_alarms_1 rfl hl (by decide) rfl (fun ls hl => ?_)
  refine lv_iconst (v := 0) hx hb dX7_alarms_2 (by decide) ?_
  refine lv_istore_n (lv' := [(2, .int (0 : Int32)), (1, .int (0 : Int32)), (0, .ref (ad 0))]) hx hb dX7_alarms_3 rfl hl (by decide) rfl (fun ls hl => ?_)
  have L4 : ∀ (k : Int32 → IS → Option (Int32 × IS)) (n : Nat) (v1 : Int32) (v2 : Int32) (x4 : IS) (H : Heap) (locs : List Loc) (ls : Array Slot), lv_has ls 3 [(0, .ref (ad 0)), (1, .int v1), (2, .int v2)] → va_P D vwCl (q_WM cI ad x4) H → va_D A (q_WM cI ad x4) → va_S A s.heap H locs → (∀ (e3 : Int32) (x5 : IS) (H : Heap) (locs : List Loc) (ls : Array Slot), lv_has ls 3 [(1, .int e3)] → va_P D vwCl (q_WM cI ad x5) H → va_D A (q_WM cI ad x5) → va_S A s.heap H locs → k e3 x5 = some res → W p l e { frames := 5, cells := 0, slots := 0, locals := 116 } s m args below meth c H locs 0 0 Q (F0 m 34 ls [])) → f_X7_alarms_L4 k n v1 v2 x4 = some res → W p l e { frames := 5, cells := 0, slots := 0, locals := 116 } s m args below meth c H locs 0 0 Q (F0 m 4 ls []) := by
    intro k n
    induction n with
    | zero => intro v1 v2 x4 H locs ls hl hP hD hS hk hF; exact q_no hF
    | succ n ih =>
      intro v1 v2 x4 H locs ls hl hP hD hS hk hF
      have hF : f_X7_alarms_L4F k (f_X7_alarms_L4 k n) v1 v2 x4 = some res := hF
      unfold f_X7_alarms_L4F at hF
      refine lv_iload_n hx hb dX7_alarms_4 rfl (lv_at hl 2 rfl) ?_
      refine lv_aload_n hx hb dX7_alarms_5 rfl (lv_at hl 0 rfl) ?_
      refine qg_M_X7_cells hM hP fl_X7_48 dX7_alarms_6 ?_
      refine lv_icmp_ge (tgt := 34) hx hb dX7_alarms_9 (by decide) (fun c6 => ?_) (fun c6 => ?_)
      · have hF := q_it hF c6
        exact hk _ _ _ _ _ (lv_sub hl [1] rfl) hP hD hS hF
      · have hF := q_ie hF c6
        refine lv_iload_n hx hb dX7_alarms_12 rfl (lv_at hl 1 rfl) ?_
        refine lv_aload_n hx hb dX7_alarms_13 rfl (lv_at hl 0 rfl) ?_
        refine lv_iload_n hx hb dX7_alarms_14 rfl (lv_at hl 2 rfl) ?_
        obtain ⟨r7, x8, hC9, hF⟩ := q_b2_e hF
        refine q_calli hM (c_X7_isAlarm l D cI cJ g ad _ _ _ hC9) hP hD hS ky_X7_isAlarm ml_X7_133 rfl rfl ⟨Nat.le_of_ble_eq_true rfl, Nat.le_of_ble_eq_true rfl⟩ 0 rfl rfl rfl hl.1 rfl (Nat.le_of_ble_eq_true rfl) ⟨Nat.zero_le _, Nat.zero_le _⟩ dX7_alarms_15 (fun H locs hz10 hP hD hS => ?_)
        obtain ⟨J26, hJ26, hF⟩ := q_jn_e hF
        have K26 : ∀ (t12 : Int32) (H : Heap) (locs : List Loc) (ls : Array Slot), lv_has ls 3 [(0, .ref (ad 0)), (2, .int v2)] → va_P D vwCl (q_WM cI ad x8) H → va_D A (q_WM cI ad x8) → va_S A s.heap H locs → J26 t12 = some res → W p l e { frames := 5, cells := 0, slots := 0, locals := 116 } s m args below meth c H locs 0 0 Q (F0 m 26 ls [.int t12, .int v1]) := by
          clear hF; intro t12 H locs ls hl hP hD hS hF
          rw [hJ26] at hF
          try dsimp only at hF
          refine lv_iadd hx hb dX7_alarms_26 ?_
          refine lv_topi (fun v13 ev13 => ?_)
          have hF := q_let_e hF ev13
          refine lv_istore_n (lv' := [(1, .int v13), (0, .ref (ad 0)), (2, .int v2)]) hx hb dX7_alarms_27 rfl hl (by decide) rfl (fun ls hl => ?_)
          obtain ⟨v14, ev14⟩ : ∃ y : Int32, y = v2 + 1 := ⟨_, rfl⟩
          have hF := q_let_e hF ev14
          refine lv_iinc (v := v14) (lv' := [(2, .int v14), (1, .int v13), (0, .ref (ad 0))]) hx hb dX7_alarms_28 hl (k := 2) rfl (by rw [ev14]; rfl) (by decide) rfl (fun ls hl => ?_)
          refine lv_goto (tgt := 4) hx hb dX7_alarms_31 (by decide) ?_
          exact ih _ _ _ _ _ _ (lv_sub hl [2, 1, 0] rfl) hP hD hS hk hF
        refine lv_if_eq (tgt := 25) hx hb dX7_alarms_18 (by decide) (fun c11 => ?_) (fun c11 => ?_)
        · have hF := q_it hF c11
          refine lv_iconst (v := 0) hx hb dX7_alarms_25 (by decide) ?_
          exact K26 _ _ _ _ (lv_sub hl [0, 2] rfl) hP hD hS hF
        · have hF := q_ie hF c11
          refine lv_iconst (v := 1) hx hb dX7_alarms_21 (by decide) ?_
          refine lv_goto (tgt := 26) hx hb dX7_alarms_22 (by decide) ?_
          exact K26 _ _ _ _ (lv_sub hl [0, 2] rfl) hP hD hS hF
  refine L4 _ _ _ _ _ _ _ _ (lv_sub hl [2, 1, 0] rfl) hP hD hS ?_ hF
  clear hF
  intro e3 x5 H locs ls hl hP hD hS hF
  refine lv_iload_n hx hb dX7_alarms_34 rfl (lv_at hl 0 rfl) ?_
  exact hRet (e3, x5) _ _ _ _ hF rfl dX7_alarms_35 hP hD hS
theorem ky_X7_bunchesTo : q_Y yX7_bunchesTo cX7_bunchesTo 4 (some .int) 1 := ⟨cw_X7_bunchesTo, im_X7_bunchesTo, se_X7_bunchesTo, in_X7, by decide +kernel⟩
set_option maxHeartbeats 4000000 in
set_option maxRecDepth 100000 in
theorem c_X7_bunchesTo (l : Launch) (D : va_G) (cI cJ : ClassId) (g : Nat → Nat) (ad : Nat → Nat) (x : IS) (a1 : Int32) (res : Int32 × IS) (hF : f_X7_bunchesTo x a1 = some res) : q_Mi l yX7_bunchesTo cX7_bunchesTo 4 .int { frames := 5, cells := 0, slots := 0, locals := 116 } D cI cJ g (q_WM cI ad x) [.ref (ad 0), .int a1] (res.1) (q_WM cI ad (res.2)) := by
  refine q_ofi (res := res) (fun u : Int32 × IS => u.1) (fun u : Int32 × IS => (q_WM cI ad (u.2))) pl_X7 (Nat.le_of_ble_eq_true rfl) ?_
  intro p e s m args below meth c A Q hM hRet ls hl hP hD hS
  have hx := hM.1.1
  have hb := hM.1.2.1
  have hl : lv_has ls 4 [(0, .ref (ad 0)), (1, .int a1)] := hl
  unfold f_X7_bunchesTo at hF
  refine lv_iconst (v := 0) hx hb dX7_bunchesTo_0 (by decide) ?_
  refine lv_istore_n (lv' := [(2, .int (0 : Int32)), (0, .ref (ad 0)), (1, .int a1)]) hx hb dX7_bunchesTo_1 rfl hl (by decide) rfl (fun ls hl => ?_)
  refine lv_iconst (v := 1) hx hb dX7_bunchesTo_2 (by decide) ?_
  refine lv_istore_n (lv' := [(3, .int (1 : Int32)), (2, .int (0 : Int32)), (0, .ref (ad 0)), (1, .int a1)]) hx hb dX7_bunchesTo_3 rfl hl (by decide) rfl (fun ls hl => ?_)
  have L4 : ∀ (k : Int32 → IS → Option (Int32 × IS)) (n : Nat) (v1 : Int32) (v2 : Int32) (x4 : IS) (H : Heap) (locs : List Loc) (ls : Array Slot), lv_has ls 4 [(0, .ref (ad 0)), (1, .int a1), (2, .int v1), (3, .int v2)] → va_P D vwCl (q_WM cI ad x4) H → va_D A (q_WM cI ad x4) → va_S A s.heap H locs → (∀ (e3 : Int32) (x5 : IS) (H : Heap) (locs : List Loc) (ls : Array Slot), lv_has ls 4 [(2, .int e3)] → va_P D vwCl (q_WM cI ad x5) H → va_D A (q_WM cI ad x5) → va_S A s.heap H locs → k e3 x5 = some res → W p l e { frames := 5, cells := 0, slots := 0, locals := 116 } s m args below meth c H locs 0 0 Q (F0 m 41 ls [])) → f_X7_bunchesTo_L4 a1 k n v1 v2 x4 = some res → W p l e { frames := 5, cells := 0, slots := 0, locals := 116 } s m args below meth c H locs 0 0 Q (F0 m 4 ls []) := by
    intro k n
    induction n with
    | zero => intro v1 v2 x4 H locs ls hl hP hD hS hk hF; exact q_no hF
    | succ n ih =>
      intro v1 v2 x4 H locs ls hl hP hD hS hk hF
      have hF : f_X7_bunchesTo_L4F a1 k (f_X7_bunchesTo_L4 a1 k n) v1 v2 x4 = some res := hF
      unfold f_X7_bunchesTo_L4F at hF
      refine lv_iload_n hx hb dX7_bunchesTo_4 rfl (lv_at hl 3 rfl) ?_
      refine lv_iload_n hx hb dX7_bunchesTo_5 rfl (lv_at hl 1 rfl) ?_
      refine lv_icmp_gt (tgt := 41) hx hb dX7_bunchesTo_6 (by decide) (fun c6 => ?_) (fun c6 => ?_)
      · have hF := q_it hF c6
        exact hk _ _ _ _ _ (lv_sub hl [2] rfl) hP hD hS hF
      · have hF := q_ie hF c6
        refine lv_iload_n hx hb dX7_bunchesTo_9 rfl (lv_at hl 2 rfl) ?_
        refine lv_aload_n hx hb dX7_bunchesTo_10 rfl (lv_at hl 0 rfl) ?_
        refine lv_iload_n hx hb dX7_bunchesTo_11 rfl (lv_at hl 3 rfl) ?_
        refine lv_iconst (v := 1) hx hb dX7_bunchesTo_12 (by decide) ?_
        refine lv_isub hx hb dX7_bunchesTo_13 ?_
        obtain ⟨r7, x8, hC9, hF⟩ := q_b2_e hF
        refine q_calli hM (c_X7_isAlarm l D cI cJ g ad _ _ _ hC9) hP hD hS ky_X7_isAlarm ml_X7_133 rfl rfl ⟨Nat.le_of_ble_eq_true rfl, Nat.le_of_ble_eq_true rfl⟩ 0 rfl rfl rfl hl.1 rfl (Nat.le_of_ble_eq_true rfl) ⟨Nat.zero_le _, Nat.zero_le _⟩ dX7_bunchesTo_14 (fun H locs hz10 hP hD hS => ?_)
        obtain ⟨J33, hJ33, hF⟩ := q_jn_e hF
        have K33 : ∀ (t18 : Int32) (x19 : IS) (H : Heap) (locs : List Loc) (ls : Array Slot), lv_has ls 4 [(0, .ref (ad 0)), (1, .int a1), (3, .int v2)] → va_P D vwCl (q_WM cI ad x19) H → va_D A (q_WM cI ad x19) → va_S A s.heap H locs → J33 t18 x19 = some res → W p l e { frames := 5, cells := 0, slots := 0, locals := 116 } s m args below meth c H locs 0 0 Q (F0 m 33 ls [.int t18, .int v1]) := by
          clear hF; intro t18 x19 H locs ls hl hP hD hS hF
          rw [hJ33] at hF
          try dsimp only at hF
          refine lv_iadd hx hb dX7_bunchesTo_33 ?_
          refine lv_topi (fun v20 ev20 => ?_)
          have hF := q_let_e hF ev20
          refine lv_istore_n (lv' := [(2, .int v20), (0, .ref (ad 0)), (1, .int a1), (3, .int v2)]) hx hb dX7_bunchesTo_34 rfl hl (by decide) rfl (fun ls hl => ?_)
          obtain ⟨v21, ev21⟩ : ∃ y : Int32, y = v2 + 1 := ⟨_, rfl⟩
          have hF := q_let_e hF ev21
          refine lv_iinc (v := v21) (lv' := [(3, .int v21), (2, .int v20), (0, .ref (ad 0)), (1, .int a1)]) hx hb dX7_bunchesTo_35 hl (k := 3) rfl (by rw [ev21]; rfl) (by decide) rfl (fun ls hl => ?_)
          refine lv_goto (tgt := 4) hx hb dX7_bunchesTo_38 (by decide) ?_
          exact ih _ _ _ _ _ _ (lv_sub hl [2, 3, 1, 0] rfl) hP hD hS hk hF
        obtain ⟨J32, hJ32, hF⟩ := q_jn_e hF
        have K32 : ∀ (x17 : IS) (H : Heap) (locs : List Loc) (ls : Array Slot), lv_has ls 4 [(0, .ref (ad 0)), (1, .int a1), (3, .int v2)] → va_P D vwCl (q_WM cI ad x17) H → va_D A (q_WM cI ad x17) → va_S A s.heap H locs → J32 x17 = some res → W p l e { frames := 5, cells := 0, slots := 0, locals := 116 } s m args below meth c H locs 0 0 Q (F0 m 32 ls [.int v1]) := by
          clear hF; intro x17 H locs ls hl hP hD hS hF
          rw [hJ32] at hF
          try dsimp only at hF
          refine lv_iconst (v := 0) hx hb dX7_bunchesTo_32 (by decide) ?_
          exact K33 _ _ _ _ _ (lv_sub hl [0, 1, 2] rfl) hP hD hS hF
        refine lv_if_eq (tgt := 32) hx hb dX7_bunchesTo_17 (by decide) (fun c11 => ?_) (fun c11 => ?_)
        · have hF := q_it hF c11
          exact K32 _ _ _ _ (lv_sub hl [0, 1, 3] rfl) hP hD hS hF
        · have hF := q_ie hF c11
          refine lv_aload_n hx hb dX7_bunchesTo_20 rfl (lv_at hl 0 rfl) ?_
          refine lv_iload_n hx hb dX7_bunchesTo_21 rfl (lv_at hl 3 rfl) ?_
          obtain ⟨r12, x13, hC14, hF⟩ := q_b2_e hF
          refine q_calli hM (c_X7_isAlarm l D cI cJ g ad _ _ _ hC14) hP hD hS ky_X7_isAlarm ml_X7_133 rfl rfl ⟨Nat.le_of_ble_eq_true rfl, Nat.le_of_ble_eq_true rfl⟩ 0 rfl rfl rfl hl.1 rfl (Nat.le_of_ble_eq_true rfl) ⟨Nat.zero_le _, Nat.zero_le _⟩ dX7_bunchesTo_22 (fun H locs hz15 hP hD hS => ?_)
          refine lv_if_ne (tgt := 32) hx hb dX7_bunchesTo_25 (by decide) (fun c16 => ?_) (fun c16 => ?_)
          · have hF := q_ie hF c16
            exact K32 _ _ _ _ (lv_sub hl [0, 1, 3] rfl) hP hD hS hF
          · have hF := q_it hF c16
            refine lv_iconst (v := 1) hx hb dX7_bunchesTo_28 (by decide) ?_
            refine lv_goto (tgt := 33) hx hb dX7_bunchesTo_29 (by decide) ?_
            exact K33 _ _ _ _ _ (lv_sub hl [0, 1, 3] rfl) hP hD hS hF
  refine L4 _ _ _ _ _ _ _ _ (lv_sub hl [2, 3, 1, 0] rfl) hP hD hS ?_ hF
  clear hF
  intro e3 x5 H locs ls hl hP hD hS hF
  refine lv_iload_n hx hb dX7_bunchesTo_41 rfl (lv_at hl 0 rfl) ?_
  exact hRet (e3, x5) _ _ _ _ hF rfl dX7_bunchesTo_42 hP hD hS
theorem ky_X7_cell : q_Y yX7_cell cX7_cell 3 (some .int) 2 := ⟨cw_X7_cell, im_X7_cell, se_X7_cell, in_X7, by decide +kernel⟩
set_option maxHeartbeats 4000000 in
set_option maxRecDepth 100000 in
theorem c_X7_cell (l : Launch) (D : va_G) (cI cJ : ClassId) (g : Nat → Nat) (ad : Nat → Nat) (x : IS) (a1 : Int32) (a2 : Int32) (res : Int32 × IS) (hF : f_X7_cell x a1 a2 = some res) : q_Mi l yX7_cell cX7_cell 3 .int { frames := 6, cells := 0, slots := 0, locals := 139 } D cI cJ g (q_WM cI ad x) [.ref (ad 0), .int a1, .int a2] (res.1) (q_WM cI ad (res.2)) := by
  refine q_ofi (res := res) (fun u : Int32 × IS => u.1) (fun u : Int32 × IS => (q_WM cI ad (u.2))) pl_X7 (Nat.le_of_ble_eq_true rfl) ?_
  intro p e s m args below meth c A Q hM hRet ls hl hP hD hS
  have hx := hM.1.1
  have hb := hM.1.2.1
  have hl : lv_has ls 3 [(0, .ref (ad 0)), (1, .int a1), (2, .int a2)] := hl
  unfold f_X7_cell at hF
  refine lv_aload_n hx hb dX7_cell_0 rfl (lv_at hl 0 rfl) ?_
  refine lv_iload_n hx hb dX7_cell_1 rfl (lv_at hl 1 rfl) ?_
  obtain ⟨r1, hC2, hF⟩ := q_b1_e hF
  refine q_calli hM (c_X7_isCell l D cI cJ g ad _ _ _ hC2) hP hD hS ky_X7_isCell ml_X7_107 rfl rfl ⟨Nat.le_of_ble_eq_true rfl, Nat.le_of_ble_eq_true rfl⟩ 0 rfl rfl rfl hl.1 rfl (Nat.le_of_ble_eq_true rfl) ⟨Nat.zero_le _, Nat.zero_le _⟩ dX7_cell_2 (fun H locs hz3 hP hD hS => ?_)
  refine lv_if_ne (tgt := 10) hx hb dX7_cell_5 (by decide) (fun c4 => ?_) (fun c4 => ?_)
  · have hF := q_ie hF c4
    refine lv_iload_n hx hb dX7_cell_10 rfl (lv_at hl 2 rfl) ?_
    obtain ⟨J69, hJ69, hF⟩ := q_jn_e hF
    have K69 : ∀ (H : Heap) (locs : List Loc) (ls : Array Slot), lv_has ls 3 [(0, .ref (ad 0)), (1, .int a1), (2, .int a2)] → va_P D vwCl (q_WM cI ad x) H → va_D A (q_WM cI ad x) → va_S A s.heap H locs → J69 = some res → W p l e { frames := 6, cells := 0, slots := 0, locals := 139 } s m args below meth c H locs 0 0 Q (F0 m 69 ls []) := by
      clear hF; intro H locs ls hl hP hD hS hF
      rw [hJ69] at hF
      refine lv_aload_n hx hb dX7_cell_69 rfl (lv_at hl 0 rfl) ?_
      refine lv_iload_n hx hb dX7_cell_70 rfl (lv_at hl 1 rfl) ?_
      refine lv_iload_n hx hb dX7_cell_71 rfl (lv_at hl 2 rfl) ?_
      refine lv_iconst (v := 2) hx hb dX7_cell_72 (by decide) ?_
      refine lv_isub hx hb dX7_cell_73 ?_
      obtain ⟨r32, x33, hC34, hF⟩ := q_b2_e hF
      refine q_calli hM (c_X7_rank l D cI cJ g ad _ _ _ _ hC34) hP hD hS ky_X7_rank ml_X7_124 rfl rfl ⟨Nat.le_of_ble_eq_true rfl, Nat.le_of_ble_eq_true rfl⟩ 0 rfl rfl rfl hl.1 rfl (Nat.le_of_ble_eq_true rfl) ⟨Nat.zero_le _, Nat.zero_le _⟩ dX7_cell_74 (fun H locs hz35 hP hD hS => ?_)
      exact hRet (r32, x33) _ _ _ _ hF rfl dX7_cell_77 hP hD hS
    by_cases c5 : a2 = 0
    · have hF := q_it hF c5
      refine lv_tableIn (off := 41) (tgt := 52) hx hb dX7_cell_11 (by rw [c5]; decide) (by rw [c5]; decide) (by rw [c5]; rfl) (by decide) ?_
      refine lv_aload_n hx hb dX7_cell_52 rfl (lv_at hl 0 rfl) ?_
      refine qg_M_X7_now hM hP fl_X7_16 dX7_cell_53 ?_
      refine lv_iload_n hx hb dX7_cell_56 rfl (lv_at hl 1 rfl) ?_
      obtain ⟨h31, hF⟩ := q_gd_e hF
      refine ql_M_X7_now hM hP h31 dX7_cell_57 ?_
      exact hRet ((x 5 a1.toNatClampNeg), x) _ _ _ _ hF rfl dX7_cell_58 hP hD hS
    · have hF := q_ie hF c5
      by_cases c6 : a2 = 1
      · have hF := q_it hF c6
        refine lv_tableIn (off := 48) (tgt := 59) hx hb dX7_cell_11 (by rw [c6]; decide) (by rw [c6]; decide) (by rw [c6]; rfl) (by decide) ?_
        refine lv_aload_n hx hb dX7_cell_59 rfl (lv_at hl 0 rfl) ?_
        refine qg_M_X7_now hM hP fl_X7_16 dX7_cell_60 ?_
        refine lv_bipush (v := 48) hx hb dX7_cell_63 (by decide) ?_
        refine lv_iload_n hx hb dX7_cell_65 rfl (lv_at hl 1 rfl) ?_
        refine lv_iadd hx hb dX7_cell_66 ?_
        obtain ⟨h30, hF⟩ := q_gd_e hF
        refine ql_M_X7_now hM hP h30 dX7_cell_67 ?_
        exact hRet ((x 5 ((48 : Int32) + a1).toNatClampNeg), x) _ _ _ _ hF rfl dX7_cell_68 hP hD hS
      · have hF := q_ie hF c6
        by_cases c7 : a2 = 2
        · have hF := q_it hF c7
          refine lv_tableIn (off := 58) (tgt := 69) hx hb dX7_cell_11 (by rw [c7]; decide) (by rw [c7]; decide) (by rw [c7]; rfl) (by decide) ?_
          exact K69 _ _ _ (lv_sub hl [0, 1, 2] rfl) hP hD hS hF
        · have hF := q_ie hF c7
          by_cases c8 : a2 = 3
          · have hF := q_it hF c8
            refine lv_tableIn (off := 58) (tgt := 69) hx hb dX7_cell_11 (by rw [c8]; decide) (by rw [c8]; decide) (by rw [c8]; rfl) (by decide) ?_
            exact K69 _ _ _ (lv_sub hl [0, 1, 2] rfl) hP hD hS hF
          · have hF := q_ie hF c8
            by_cases c9 : a2 = 4
            · have hF := q_it hF c9
              refine lv_tableIn (off := 67) (tgt := 78) hx hb dX7_cell_11 (by rw [c9]; decide) (by rw [c9]; decide) (by rw [c9]; rfl) (by decide) ?_
              refine lv_aload_n hx hb dX7_cell_78 rfl (lv_at hl 0 rfl) ?_
              refine lv_iload_n hx hb dX7_cell_79 rfl (lv_at hl 1 rfl) ?_
              obtain ⟨r26, x27, hC28, hF⟩ := q_b2_e hF
              refine q_calli hM (c_X7_floorOf l D cI cJ g ad _ _ _ hC28) hP hD hS ky_X7_floorOf ml_X7_130 rfl rfl ⟨Nat.le_of_ble_eq_true rfl, Nat.le_of_ble_eq_true rfl⟩ 0 rfl rfl rfl hl.1 rfl (Nat.le_of_ble_eq_true rfl) ⟨Nat.zero_le _, Nat.zero_le _⟩ dX7_cell_80 (fun H locs hz29 hP hD hS => ?_)
              exact hRet (r26, x27) _ _ _ _ hF rfl dX7_cell_83 hP hD hS
            · have hF := q_ie hF c9
              by_cases c10 : a2 = 5
              · have hF := q_it hF c10
                refine lv_tableIn (off := 73) (tgt := 84) hx hb dX7_cell_11 (by rw [c10]; decide) (by rw [c10]; decide) (by rw [c10]; rfl) (by decide) ?_
                refine lv_aload_n hx hb dX7_cell_84 rfl (lv_at hl 0 rfl) ?_
                refine lv_iload_n hx hb dX7_cell_85 rfl (lv_at hl 1 rfl) ?_
                obtain ⟨r21, x22, hC23, hF⟩ := q_b2_e hF
                refine q_calli hM (c_X7_isAlarm l D cI cJ g ad _ _ _ hC23) hP hD hS ky_X7_isAlarm ml_X7_133 rfl rfl ⟨Nat.le_of_ble_eq_true rfl, Nat.le_of_ble_eq_true rfl⟩ 0 rfl rfl rfl hl.1 rfl (Nat.le_of_ble_eq_true rfl) ⟨Nat.zero_le _, Nat.zero_le _⟩ dX7_cell_86 (fun H locs hz24 hP hD hS => ?_)
                refine lv_if_eq (tgt := 96) hx hb dX7_cell_89 (by decide) (fun c25 => ?_) (fun c25 => ?_)
                · have hF := q_it hF c25
                  refine lv_iconst (v := 0) hx hb dX7_cell_96 (by decide) ?_
                  exact hRet ((0 : Int32), x22) _ _ _ _ hF rfl dX7_cell_97 hP hD hS
                · have hF := q_ie hF c25
                  refine lv_iconst (v := 1) hx hb dX7_cell_92 (by decide) ?_
                  refine lv_goto (tgt := 97) hx hb dX7_cell_93 (by decide) ?_
                  exact hRet ((1 : Int32), x22) _ _ _ _ hF rfl dX7_cell_97 hP hD hS
              · have hF := q_ie hF c10
                by_cases c11 : a2 = 6
                · have hF := q_it hF c11
                  refine lv_tableIn (off := 87) (tgt := 98) hx hb dX7_cell_11 (by rw [c11]; decide) (by rw [c11]; decide) (by rw [c11]; rfl) (by decide) ?_
                  refine lv_aload_n hx hb dX7_cell_98 rfl (lv_at hl 0 rfl) ?_
                  refine lv_iload_n hx hb dX7_cell_99 rfl (lv_at hl 1 rfl) ?_
                  obtain ⟨r12, x13, hC14, hF⟩ := q_b2_e hF
                  refine q_calli hM (c_X7_isAlarm l D cI cJ g ad _ _ _ hC14) hP hD hS ky_X7_isAlarm ml_X7_133 rfl rfl ⟨Nat.le_of_ble_eq_true rfl, Nat.le_of_ble_eq_true rfl⟩ 0 rfl rfl rfl hl.1 rfl (Nat.le_of_ble_eq_true rfl) ⟨Nat.zero_le _, Nat.zero_le _⟩ dX7_cell_100 (fun H locs hz15 hP hD hS => ?_)
                  refine lv_if_eq (tgt := 114) hx hb dX7_cell_103 (by decide) (fun c16 => ?_) (fun c16 => ?_)
                  · have hF := q_it hF c16
                    refine lv_bipush (v := -4) hx hb dX7_cell_114 (by decide) ?_
                    exact hRet ((-4 : Int32), x13) _ _ _ _ hF rfl dX7_cell_116 hP hD hS
                  · have hF := q_ie hF c16
                    refine lv_aload_n hx hb dX7_cell_106 rfl (lv_at hl 0 rfl) ?_
                    refine lv_iload_n hx hb dX7_cell_107 rfl (lv_at hl 1 rfl) ?_
                    obtain ⟨r17, x18, hC19, hF⟩ := q_b2_e hF
                    refine q_calli hM (c_X7_bunchesTo l D cI cJ g ad _ _ _ hC19) hP hD hS ky_X7_bunchesTo ml_X7_136 rfl rfl ⟨Nat.le_of_ble_eq_true rfl, Nat.le_of_ble_eq_true rfl⟩ 0 rfl rfl rfl hl.1 rfl (Nat.le_of_ble_eq_true rfl) ⟨Nat.zero_le _, Nat.zero_le _⟩ dX7_cell_108 (fun H locs hz20 hP hD hS => ?_)
                    refine lv_goto (tgt := 116) hx hb dX7_cell_111 (by decide) ?_
                    exact hRet (r17, x18) _ _ _ _ hF rfl dX7_cell_116 hP hD hS
                · have hF := q_ie hF c11
                  refine lv_tableOut (tgt := 117) hx hb dX7_cell_11 (by have z0 := q_ne c5; have z1 := q_ne c6; have z2 := q_ne c7; have z3 := q_ne c8; have z4 := q_ne c9; have z5 := q_ne c10; have z6 := q_ne c11; have y0 : (a2).toInt < 0 ∨ 6 < (a2).toInt := (by rw [show (0 : Int32).toInt = 0 from rfl] at z0; rw [show (1 : Int32).toInt = 1 from rfl] at z1; rw [show (2 : Int32).toInt = 2 from rfl] at z2; rw [show (3 : Int32).toInt = 3 from rfl] at z3; rw [show (4 : Int32).toInt = 4 from rfl] at z4; rw [show (5 : Int32).toInt = 5 from rfl] at z5; rw [show (6 : Int32).toInt = 6 from rfl] at z6; omega); exact y0) (by decide) ?_
                  refine lv_iconst (v := -1) hx hb dX7_cell_117 (by decide) ?_
                  exact hRet ((-1 : Int32), x) _ _ _ _ hF rfl dX7_cell_118 hP hD hS
  · have hF := q_it hF c4
    refine lv_iconst (v := -1) hx hb dX7_cell_8 (by decide) ?_
    exact hRet ((-1 : Int32), x) _ _ _ _ hF rfl dX7_cell_9 hP hD hS
theorem ky_X7_ranked : q_Y yX7_ranked cX7_ranked 4 (some .int) 3 := ⟨cw_X7_ranked, im_X7_ranked, se_X7_ranked, in_X7, by decide +kernel⟩
set_option maxHeartbeats 4000000 in
set_option maxRecDepth 100000 in
theorem c_X7_ranked (l : Launch) (D : va_G) (cI cJ : ClassId) (g : Nat → Nat) (ad : Nat → Nat) (x : IS) (a1 : Int32) (a2 : Int32) (a3 : Int32) (res : Int32 × IS) (hF : f_X7_ranked x a1 a2 a3 = some res) : q_Mi l yX7_ranked cX7_ranked 4 .int { frames := 2, cells := 0, slots := 0, locals := 48 } D cI cJ g (q_WM cI ad x) [.ref (ad 0), .int a1, .int a2, .int a3] (res.1) (q_WM cI ad (res.2)) := by
  refine q_ofi (res := res) (fun u : Int32 × IS => u.1) (fun u : Int32 × IS => (q_WM cI ad (u.2))) pl_X7 (Nat.le_of_ble_eq_true rfl) ?_
  intro p e s m args below meth c A Q hM hRet ls hl hP hD hS
  have hx := hM.1.1
  have hb := hM.1.2.1
  have hl : lv_has ls 4 [(0, .ref (ad 0)), (1, .int a1), (2, .int a2), (3, .int a3)] := hl
  unfold f_X7_ranked at hF
  refine lv_aload_n hx hb dX7_ranked_0 rfl (lv_at hl 0 rfl) ?_
  refine lv_iload_n hx hb dX7_ranked_1 rfl (lv_at hl 1 rfl) ?_
  obtain ⟨r1, hC2, hF⟩ := q_b1_e hF
  refine q_calli hM (c_X7_isCell l D cI cJ g ad _ _ _ hC2) hP hD hS ky_X7_isCell ml_X7_107 rfl rfl ⟨Nat.le_of_ble_eq_true rfl, Nat.le_of_ble_eq_true rfl⟩ 0 rfl rfl rfl hl.1 rfl (Nat.le_of_ble_eq_true rfl) ⟨Nat.zero_le _, Nat.zero_le _⟩ dX7_ranked_2 (fun H locs hz3 hP hD hS => ?_)
  refine lv_if_eq (tgt := 22) hx hb dX7_ranked_5 (by decide) (fun c4 => ?_) (fun c4 => ?_)
  · have hF := q_it hF c4
    refine lv_iconst (v := -1) hx hb dX7_ranked_22 (by decide) ?_
    exact hRet ((-1 : Int32), x) _ _ _ _ hF rfl dX7_ranked_23 hP hD hS
  · have hF := q_ie hF c4
    refine lv_iload_n hx hb dX7_ranked_8 rfl (lv_at hl 2 rfl) ?_
    refine lv_iconst (v := 0) hx hb dX7_ranked_9 (by decide) ?_
    refine lv_iconst (v := 2) hx hb dX7_ranked_10 (by decide) ?_
    obtain ⟨r5, hC6, hF⟩ := q_b1_e hF
    refine q_calliS hM (c_X7_isIn l D cI cJ g (q_WM cI ad x) _ _ _ _ hC6) hP hD hS ky_X7_isIn ml_X7_76 rfl rfl ⟨Nat.le_of_ble_eq_true rfl, Nat.le_of_ble_eq_true rfl⟩ rfl hl.1 rfl (Nat.le_of_ble_eq_true rfl) ⟨Nat.zero_le _, Nat.zero_le _⟩ dX7_ranked_11 (fun H locs hz7 hP hD hS => ?_)
    refine lv_if_eq (tgt := 22) hx hb dX7_ranked_14 (by decide) (fun c8 => ?_) (fun c8 => ?_)
    · have hF := q_it hF c8
      refine lv_iconst (v := -1) hx hb dX7_ranked_22 (by decide) ?_
      exact hRet ((-1 : Int32), x) _ _ _ _ hF rfl dX7_ranked_23 hP hD hS
    · have hF := q_ie hF c8
      refine lv_iload_n hx hb dX7_ranked_17 rfl (lv_at hl 3 rfl) ?_
      refine lv_iconst (v := 1) hx hb dX7_ranked_18 (by decide) ?_
      refine lv_icmp_ge (tgt := 24) hx hb dX7_ranked_19 (by decide) (fun c9 => ?_) (fun c9 => ?_)
      · have hF := q_it hF c9
        refine lv_iload_n hx hb dX7_ranked_24 rfl (lv_at hl 3 rfl) ?_
        refine lv_aload_n hx hb dX7_ranked_25 rfl (lv_at hl 0 rfl) ?_
        refine lv_iload_n hx hb dX7_ranked_26 rfl (lv_at hl 1 rfl) ?_
        refine lv_iload_n hx hb dX7_ranked_27 rfl (lv_at hl 2 rfl) ?_
        obtain ⟨r10, x11, hC12, hF⟩ := q_b2_e hF
        refine q_calli hM (c_X7_rank l D cI cJ g ad _ _ _ _ hC12) hP hD hS ky_X7_rank ml_X7_124 rfl rfl ⟨Nat.le_of_ble_eq_true rfl, Nat.le_of_ble_eq_true rfl⟩ 0 rfl rfl rfl hl.1 rfl (Nat.le_of_ble_eq_true rfl) ⟨Nat.zero_le _, Nat.zero_le _⟩ dX7_ranked_28 (fun H locs hz13 hP hD hS => ?_)
        refine lv_icmp_gt (tgt := 45) hx hb dX7_ranked_31 (by decide) (fun c14 => ?_) (fun c14 => ?_)
        · have hF := q_it hF c14
          refine lv_bipush (v := -4) hx hb dX7_ranked_45 (by decide) ?_
          exact hRet ((-4 : Int32), x11) _ _ _ _ hF rfl dX7_ranked_47 hP hD hS
        · have hF := q_ie hF c14
          refine lv_aload_n hx hb dX7_ranked_34 rfl (lv_at hl 0 rfl) ?_
          refine qg_M_X7_ranks hM hP fl_X7_28 dX7_ranked_35 ?_
          refine lv_iload_n hx hb dX7_ranked_38 rfl (lv_at hl 3 rfl) ?_
          refine lv_iconst (v := 1) hx hb dX7_ranked_39 (by decide) ?_
          refine lv_isub hx hb dX7_ranked_40 ?_
          obtain ⟨h15, hF⟩ := q_gd_e hF
          refine ql_M_X7_ranks hM hP h15 dX7_ranked_41 ?_
          refine lv_goto (tgt := 47) hx hb dX7_ranked_42 (by decide) ?_
          exact hRet ((x11 13 (a3 - (1 : Int32)).toNatClampNeg), x11) _ _ _ _ hF rfl dX7_ranked_47 hP hD hS
      · have hF := q_ie hF c9
        refine lv_iconst (v := -1) hx hb dX7_ranked_22 (by decide) ?_
        exact hRet ((-1 : Int32), x) _ _ _ _ hF rfl dX7_ranked_23 hP hD hS
theorem ky_X7_hides1 : q_Y yX7_hides1 cX7_hides1 4 (some .boolean) 2 := ⟨cw_X7_hides1, im_X7_hides1, se_X7_hides1, in_X7, by decide +kernel⟩
set_option maxHeartbeats 4000000 in
set_option maxRecDepth 100000 in
theorem c_X7_hides1 (l : Launch) (D : va_G) (cI cJ : ClassId) (g : Nat → Nat) (ad : Nat → Nat) (x : IS) (a1 : Int32) (a2 : Int32) (res : Int32 × IS) (hF : f_X7_hides1 x a1 a2 = some res) : q_Mi l yX7_hides1 cX7_hides1 4 .boolean { frames := 5, cells := 0, slots := 0, locals := 116 } D cI cJ g (q_WM cI ad x) [.ref (ad 0), .int a1, .int a2] (res.1) (q_WM cI ad (res.2)) := by
  refine q_ofi (res := res) (fun u : Int32 × IS => u.1) (fun u : Int32 × IS => (q_WM cI ad (u.2))) pl_X7 (Nat.le_of_ble_eq_true rfl) ?_
  intro p e s m args below meth c A Q hM hRet ls hl hP hD hS
  have hx := hM.1.1
  have hb := hM.1.2.1
  have hl : lv_has ls 4 [(0, .ref (ad 0)), (1, .int a1), (2, .int a2)] := hl
  unfold f_X7_hides1 at hF
  refine lv_iload_n hx hb dX7_hides1_0 rfl (lv_at hl 1 rfl) ?_
  refine lv_iload_n hx hb dX7_hides1_1 rfl (lv_at hl 2 rfl) ?_
  refine lv_icmp_eq (tgt := 26) hx hb dX7_hides1_2 (by decide) (fun c1 => ?_) (fun c1 => ?_)
  · have hF := q_it hF c1
    refine lv_iconst (v := 0) hx hb dX7_hides1_26 (by decide) ?_
    exact hRet ((0 : Int32), x) _ _ _ _ hF narrow_b0 dX7_hides1_27 hP hD hS
  · have hF := q_ie hF c1
    refine lv_aload_n hx hb dX7_hides1_5 rfl (lv_at hl 0 rfl) ?_
    refine qg_M_X7_now hM hP fl_X7_16 dX7_hides1_6 ?_
    refine lv_bipush (v := 48) hx hb dX7_hides1_9 (by decide) ?_
    refine lv_iload_n hx hb dX7_hides1_11 rfl (lv_at hl 2 rfl) ?_
    refine lv_iadd hx hb dX7_hides1_12 ?_
    obtain ⟨h2, hF⟩ := q_gd_e hF
    refine ql_M_X7_now hM hP h2 dX7_hides1_13 ?_
    refine lv_iconst (v := 1) hx hb dX7_hides1_14 (by decide) ?_
    refine lv_icmp_eq (tgt := 26) hx hb dX7_hides1_15 (by decide) (fun c3 => ?_) (fun c3 => ?_)
    · have hF := q_it hF c3
      refine lv_iconst (v := 0) hx hb dX7_hides1_26 (by decide) ?_
      exact hRet ((0 : Int32), x) _ _ _ _ hF narrow_b0 dX7_hides1_27 hP hD hS
    · have hF := q_ie hF c3
      refine lv_aload_n hx hb dX7_hides1_18 rfl (lv_at hl 0 rfl) ?_
      refine lv_iload_n hx hb dX7_hides1_19 rfl (lv_at hl 2 rfl) ?_
      obtain ⟨r4, x5, hC6, hF⟩ := q_b2_e hF
      refine q_calli hM (c_X7_isAlarm l D cI cJ g ad _ _ _ hC6) hP hD hS ky_X7_isAlarm ml_X7_133 rfl rfl ⟨Nat.le_of_ble_eq_true rfl, Nat.le_of_ble_eq_true rfl⟩ 0 rfl rfl rfl hl.1 rfl (Nat.le_of_ble_eq_true rfl) ⟨Nat.zero_le _, Nat.zero_le _⟩ dX7_hides1_20 (fun H locs hz7 hP hD hS => ?_)
      refine lv_if_eq (tgt := 28) hx hb dX7_hides1_23 (by decide) (fun c8 => ?_) (fun c8 => ?_)
      · have hF := q_it hF c8
        refine lv_aload_n hx hb dX7_hides1_28 rfl (lv_at hl 0 rfl) ?_
        refine qg_M_X7_now hM hP fl_X7_16 dX7_hides1_29 ?_
        refine lv_bipush (v := 48) hx hb dX7_hides1_32 (by decide) ?_
        refine lv_iload_n hx hb dX7_hides1_34 rfl (lv_at hl 1 rfl) ?_
        refine lv_iadd hx hb dX7_hides1_35 ?_
        refine lv_iconst (v := 1) hx hb dX7_hides1_36 (by decide) ?_
        obtain ⟨h9, hF⟩ := q_gd_e hF
        refine qs_M_X7_now hM hP hD hS h9 dX7_hides1_37 (fun x10 H locs ex10 hP hD hS => ?_)
        have hF := q_let_e hF ex10
        refine lv_aload_n hx hb dX7_hides1_38 rfl (lv_at hl 0 rfl) ?_
        refine lv_iload_n hx hb dX7_hides1_39 rfl (lv_at hl 2 rfl) ?_
        obtain ⟨r11, x12, hC13, hF⟩ := q_b2_e hF
        refine q_calli hM (c_X7_isAlarm l D cI cJ g ad _ _ _ hC13) hP hD hS ky_X7_isAlarm ml_X7_133 rfl rfl ⟨Nat.le_of_ble_eq_true rfl, Nat.le_of_ble_eq_true rfl⟩ 0 rfl rfl rfl hl.1 rfl (Nat.le_of_ble_eq_true rfl) ⟨Nat.zero_le _, Nat.zero_le _⟩ dX7_hides1_40 (fun H locs hz14 hP hD hS => ?_)
        refine lv_istore_n (lv' := [(3, .int r11), (0, .ref (ad 0)), (1, .int a1), (2, .int a2)]) hx hb dX7_hides1_43 rfl hl (by decide) rfl (fun ls hl => ?_)
        refine lv_aload_n hx hb dX7_hides1_44 rfl (lv_at hl 1 rfl) ?_
        refine qg_M_X7_now hM hP fl_X7_16 dX7_hides1_45 ?_
        refine lv_bipush (v := 48) hx hb dX7_hides1_48 (by decide) ?_
        refine lv_iload_n hx hb dX7_hides1_50 rfl (lv_at hl 2 rfl) ?_
        refine lv_iadd hx hb dX7_hides1_51 ?_
        refine lv_iconst (v := 0) hx hb dX7_hides1_52 (by decide) ?_
        obtain ⟨h15, hF⟩ := q_gd_e hF
        refine qs_M_X7_now hM hP hD hS h15 dX7_hides1_53 (fun x16 H locs ex16 hP hD hS => ?_)
        have hF := q_let_e hF ex16
        refine lv_iload_n hx hb dX7_hides1_54 rfl (lv_at hl 0 rfl) ?_
        exact hRet (r11, x16) _ _ _ _ hF hz14 dX7_hides1_55 hP hD hS
      · have hF := q_ie hF c8
        refine lv_iconst (v := 0) hx hb dX7_hides1_26 (by decide) ?_
        exact hRet ((0 : Int32), x5) _ _ _ _ hF narrow_b0 dX7_hides1_27 hP hD hS
theorem ky_X7_hides : q_Y yX7_hides cX7_hides 5 (some .int) 2 := ⟨cw_X7_hides, im_X7_hides, se_X7_hides, in_X7, by decide +kernel⟩
set_option maxHeartbeats 4000000 in
set_option maxRecDepth 100000 in
theorem c_X7_hides (l : Launch) (D : va_G) (cI cJ : ClassId) (g : Nat → Nat) (ad : Nat → Nat) (x : IS) (a1 : Int32) (a2 : Int32) (res : Int32 × IS) (hF : f_X7_hides x a1 a2 = some res) : q_Mi l yX7_hides cX7_hides 5 .int { frames := 6, cells := 0, slots := 0, locals := 139 } D cI cJ g (q_WM cI ad x) [.ref (ad 0), .int a1, .int a2] (res.1) (q_WM cI ad (res.2)) := by
  refine q_ofi (res := res) (fun u : Int32 × IS => u.1) (fun u : Int32 × IS => (q_WM cI ad (u.2))) pl_X7 (Nat.le_of_ble_eq_true rfl) ?_
  intro p e s m args below meth c A Q hM hRet ls hl hP hD hS
  have hx := hM.1.1
  have hb := hM.1.2.1
  have hl : lv_has ls 5 [(0, .ref (ad 0)), (1, .int a1), (2, .int a2)] := hl
  unfold f_X7_hides at hF
  refine lv_aload_n hx hb dX7_hides_0 rfl (lv_at hl 0 rfl) ?_
  refine lv_iload_n hx hb dX7_hides_1 rfl (lv_at hl 1 rfl) ?_
  obtain ⟨r1, hC2, hF⟩ := q_b1_e hF
  refine q_calli hM (c_X7_isCell l D cI cJ g ad _ _ _ hC2) hP hD hS ky_X7_isCell ml_X7_107 rfl rfl ⟨Nat.le_of_ble_eq_true rfl, Nat.le_of_ble_eq_true rfl⟩ 0 rfl rfl rfl hl.1 rfl (Nat.le_of_ble_eq_true rfl) ⟨Nat.zero_le _, Nat.zero_le _⟩ dX7_hides_2 (fun H locs hz3 hP hD hS => ?_)
  refine lv_if_eq (tgt := 27) hx hb dX7_hides_5 (by decide) (fun c4 => ?_) (fun c4 => ?_)
  · have hF := q_it hF c4
    refine lv_iconst (v := -1) hx hb dX7_hides_27 (by decide) ?_
    exact hRet ((-1 : Int32), x) _ _ _ _ hF rfl dX7_hides_28 hP hD hS
  · have hF := q_ie hF c4
    refine lv_iload_n hx hb dX7_hides_8 rfl (lv_at hl 2 rfl) ?_
    refine lv_iconst (v := -1) hx hb dX7_hides_9 (by decide) ?_
    refine lv_aload_n hx hb dX7_hides_10 rfl (lv_at hl 0 rfl) ?_
    refine qg_M_X7_cells hM hP fl_X7_48 dX7_hides_11 ?_
    refine lv_iconst (v := 1) hx hb dX7_hides_14 (by decide) ?_
    refine lv_isub hx hb dX7_hides_15 ?_
    obtain ⟨r5, hC6, hF⟩ := q_b1_e hF
    refine q_calliS hM (c_X7_isIn l D cI cJ g (q_WM cI ad x) _ _ _ _ hC6) hP hD hS ky_X7_isIn ml_X7_76 rfl rfl ⟨Nat.le_of_ble_eq_true rfl, Nat.le_of_ble_eq_true rfl⟩ rfl hl.1 rfl (Nat.le_of_ble_eq_true rfl) ⟨Nat.zero_le _, Nat.zero_le _⟩ dX7_hides_16 (fun H locs hz7 hP hD hS => ?_)
    refine lv_if_eq (tgt := 27) hx hb dX7_hides_19 (by decide) (fun c8 => ?_) (fun c8 => ?_)
    · have hF := q_it hF c8
      refine lv_iconst (v := -1) hx hb dX7_hides_27 (by decide) ?_
      exact hRet ((-1 : Int32), x) _ _ _ _ hF rfl dX7_hides_28 hP hD hS
    · have hF := q_ie hF c8
      refine lv_iload_n hx hb dX7_hides_22 rfl (lv_at hl 1 rfl) ?_
      refine lv_iload_n hx hb dX7_hides_23 rfl (lv_at hl 2 rfl) ?_
      refine lv_icmp_ne (tgt := 29) hx hb dX7_hides_24 (by decide) (fun c9 => ?_) (fun c9 => ?_)
      · have hF := q_ie hF c9
        refine lv_aload_n hx hb dX7_hides_29 rfl (lv_at hl 0 rfl) ?_
        refine qg_M_X7_now hM hP fl_X7_16 dX7_hides_30 ?_
        refine lv_bipush (v := 48) hx hb dX7_hides_33 (by decide) ?_
        refine lv_iload_n hx hb dX7_hides_35 rfl (lv_at hl 1 rfl) ?_
        refine lv_iadd hx hb dX7_hides_36 ?_
        obtain ⟨h10, hF⟩ := q_gd_e hF
        refine ql_M_X7_now hM hP h10 dX7_hides_37 ?_
        refine lv_iconst (v := 1) hx hb dX7_hides_38 (by decide) ?_
        refine lv_icmp_eq (tgt := 59) hx hb dX7_hides_39 (by decide) (fun c11 => ?_) (fun c11 => ?_)
        · have hF := q_it hF c11
          refine lv_bipush (v := -2) hx hb dX7_hides_59 (by decide) ?_
          exact hRet ((-2 : Int32), x) _ _ _ _ hF rfl dX7_hides_61 hP hD hS
        · have hF := q_ie hF c11
          refine lv_iload_n hx hb dX7_hides_42 rfl (lv_at hl 2 rfl) ?_
          obtain ⟨J62, hJ62, hF⟩ := q_jn_e hF
          have K62 : ∀ (H : Heap) (locs : List Loc) (ls : Array Slot), lv_has ls 5 [(0, .ref (ad 0)), (1, .int a1), (2, .int a2)] → va_P D vwCl (q_WM cI ad x) H → va_D A (q_WM cI ad x) → va_S A s.heap H locs → J62 = some res → W p l e { frames := 6, cells := 0, slots := 0, locals := 139 } s m args below meth c H locs 0 0 Q (F0 m 62 ls []) := by
            clear hF; intro H locs ls hl hP hD hS hF
            rw [hJ62] at hF
            refine lv_iconst (v := 0) hx hb dX7_hides_62 (by decide) ?_
            refine lv_istore_n (lv' := [(3, .int (0 : Int32)), (0, .ref (ad 0)), (1, .int a1), (2, .int a2)]) hx hb dX7_hides_63 rfl hl (by decide) rfl (fun ls hl => ?_)
            refine lv_iload_n hx hb dX7_hides_64 rfl (lv_at hl 3 rfl) ?_
            obtain ⟨J73, hJ73, hF⟩ := q_jn_e hF
            have K73 : ∀ (t16 : Int32) (H : Heap) (locs : List Loc) (ls : Array Slot), lv_has ls 5 [(0, .ref (ad 0)), (1, .int a1), (2, .int a2), (3, .int (0 : Int32))] → va_P D vwCl (q_WM cI ad x) H → va_D A (q_WM cI ad x) → va_S A s.heap H locs → J73 t16 = some res → W p l e { frames := 6, cells := 0, slots := 0, locals := 139 } s m args below meth c H locs 0 0 Q (F0 m 73 ls [.int t16]) := by
              clear hF; intro t16 H locs ls hl hP hD hS hF
              rw [hJ73] at hF
              try dsimp only at hF
              refine lv_istore (lv' := [(4, .int t16), (0, .ref (ad 0)), (1, .int a1), (2, .int a2), (3, .int (0 : Int32))]) hx hb dX7_hides_73 hl (by decide) rfl (fun ls hl => ?_)
              have L75 : ∀ (k : Int32 → IS → Option (Int32 × IS)) (n : Nat) (v17 : Int32) (v18 : Int32) (x20 : IS) (H : Heap) (locs : List Loc) (ls : Array Slot), lv_has ls 5 [(0, .ref (ad 0)), (1, .int a1), (2, .int a2), (3, .int v17), (4, .int v18)] → va_P D vwCl (q_WM cI ad x20) H → va_D A (q_WM cI ad x20) → va_S A s.heap H locs → (∀ (e19 : Int32) (x21 : IS) (H : Heap) (locs : List Loc) (ls : Array Slot), lv_has ls 5 [(3, .int e19)] → va_P D vwCl (q_WM cI ad x21) H → va_D A (q_WM cI ad x21) → va_S A s.heap H locs → k e19 x21 = some res → W p l e { frames := 6, cells := 0, slots := 0, locals := 139 } s m args below meth c H locs 0 0 Q (F0 m 118 ls [])) → f_X7_hides_L75 a1 a2 k n v17 v18 x20 = some res → W p l e { frames := 6, cells := 0, slots := 0, locals := 139 } s m args below meth c H locs 0 0 Q (F0 m 75 ls []) := by
                intro k n
                induction n with
                | zero => intro v17 v18 x20 H locs ls hl hP hD hS hk hF; exact q_no hF
                | succ n ih =>
                  intro v17 v18 x20 H locs ls hl hP hD hS hk hF
                  have hF : f_X7_hides_L75F a1 a2 k (f_X7_hides_L75 a1 a2 k n) v17 v18 x20 = some res := hF
                  unfold f_X7_hides_L75F at hF
                  refine lv_iload hx hb dX7_hides_75 (lv_at hl 4 rfl) ?_
                  refine lv_iload_n hx hb dX7_hides_77 rfl (lv_at hl 2 rfl) ?_
                  obtain ⟨J91, hJ91, hF⟩ := q_jn_e hF
                  have K91 : ∀ (t23 : Int32) (H : Heap) (locs : List Loc) (ls : Array Slot), lv_has ls 5 [(0, .ref (ad 0)), (1, .int a1), (2, .int a2), (3, .int v17), (4, .int v18)] → va_P D vwCl (q_WM cI ad x20) H → va_D A (q_WM cI ad x20) → va_S A s.heap H locs → J91 t23 = some res → W p l e { frames := 6, cells := 0, slots := 0, locals := 139 } s m args below meth c H locs 0 0 Q (F0 m 91 ls [.int t23, .int v18]) := by
                    clear hF; intro t23 H locs ls hl hP hD hS hF
                    rw [hJ91] at hF
                    try dsimp only at hF
                    refine lv_icmp_ge (tgt := 118) hx hb dX7_hides_91 (by decide) (fun c24 => ?_) (fun c24 => ?_)
                    · have hF := q_it hF c24
                      exact hk _ _ _ _ _ (lv_sub hl [3] rfl) hP hD hS hF
                    · have hF := q_ie hF c24
                      refine lv_iload_n hx hb dX7_hides_94 rfl (lv_at hl 3 rfl) ?_
                      refine lv_aload_n hx hb dX7_hides_95 rfl (lv_at hl 0 rfl) ?_
                      refine lv_iload_n hx hb dX7_hides_96 rfl (lv_at hl 1 rfl) ?_
                      refine lv_iload hx hb dX7_hides_97 (lv_at hl 4 rfl) ?_
                      obtain ⟨r25, x26, hC27, hF⟩ := q_b2_e hF
                      refine q_calli hM (c_X7_hides1 l D cI cJ g ad _ _ _ _ hC27) hP hD hS ky_X7_hides1 ml_X7_139 rfl rfl ⟨Nat.le_of_ble_eq_true rfl, Nat.le_of_ble_eq_true rfl⟩ 0 rfl rfl rfl hl.1 rfl (Nat.le_of_ble_eq_true rfl) ⟨Nat.zero_le _, Nat.zero_le _⟩ dX7_hides_99 (fun H locs hz28 hP hD hS => ?_)
                      obtain ⟨J110, hJ110, hF⟩ := q_jn_e hF
                      have K110 : ∀ (t30 : Int32) (H : Heap) (locs : List Loc) (ls : Array Slot), lv_has ls 5 [(0, .ref (ad 0)), (1, .int a1), (2, .int a2), (4, .int v18)] → va_P D vwCl (q_WM cI ad x26) H → va_D A (q_WM cI ad x26) → va_S A s.heap H locs → J110 t30 = some res → W p l e { frames := 6, cells := 0, slots := 0, locals := 139 } s m args below meth c H locs 0 0 Q (F0 m 110 ls [.int t30, .int v17]) := by
                        clear hF; intro t30 H locs ls hl hP hD hS hF
                        rw [hJ110] at hF
                        try dsimp only at hF
                        refine lv_iadd hx hb dX7_hides_110 ?_
                        refine lv_topi (fun v31 ev31 => ?_)
                        have hF := q_let_e hF ev31
                        refine lv_istore_n (lv' := [(3, .int v31), (0, .ref (ad 0)), (1, .int a1), (2, .int a2), (4, .int v18)]) hx hb dX7_hides_111 rfl hl (by decide) rfl (fun ls hl => ?_)
                        obtain ⟨v32, ev32⟩ : ∃ y : Int32, y = v18 + 1 := ⟨_, rfl⟩
                        have hF := q_let_e hF ev32
                        refine lv_iinc (v := v32) (lv' := [(4, .int v32), (3, .int v31), (0, .ref (ad 0)), (1, .int a1), (2, .int a2)]) hx hb dX7_hides_112 hl (k := 4) rfl (by rw [ev32]; rfl) (by decide) rfl (fun ls hl => ?_)
                        refine lv_goto (tgt := 75) hx hb dX7_hides_115 (by decide) ?_
                        exact ih _ _ _ _ _ _ (lv_sub hl [2, 3, 4, 1, 0] rfl) hP hD hS hk hF
                      refine lv_if_eq (tgt := 109) hx hb dX7_hides_102 (by decide) (fun c29 => ?_) (fun c29 => ?_)
                      · have hF := q_it hF c29
                        refine lv_iconst (v := 0) hx hb dX7_hides_109 (by decide) ?_
                        exact K110 _ _ _ _ (lv_sub hl [0, 1, 2, 4] rfl) hP hD hS hF
                      · have hF := q_ie hF c29
                        refine lv_iconst (v := 1) hx hb dX7_hides_105 (by decide) ?_
                        refine lv_goto (tgt := 110) hx hb dX7_hides_106 (by decide) ?_
                        exact K110 _ _ _ _ (lv_sub hl [0, 1, 2, 4] rfl) hP hD hS hF
                  refine lv_if_ge (tgt := 88) hx hb dX7_hides_78 (by decide) (fun c22 => ?_) (fun c22 => ?_)
                  · have hF := q_it hF c22
                    refine lv_iload_n hx hb dX7_hides_88 rfl (lv_at hl 2 rfl) ?_
                    refine lv_iconst (v := 1) hx hb dX7_hides_89 (by decide) ?_
                    refine lv_iadd hx hb dX7_hides_90 ?_
                    exact K91 _ _ _ _ (lv_sub hl [0, 1, 2, 3, 4] rfl) hP hD hS hF
                  · have hF := q_ie hF c22
                    refine lv_aload_n hx hb dX7_hides_81 rfl (lv_at hl 0 rfl) ?_
                    refine qg_M_X7_cells hM hP fl_X7_48 dX7_hides_82 ?_
                    refine lv_goto (tgt := 91) hx hb dX7_hides_85 (by decide) ?_
                    exact K91 _ _ _ _ (lv_sub hl [0, 1, 2, 3, 4] rfl) hP hD hS hF
              refine L75 _ _ _ _ _ _ _ _ (lv_sub hl [1, 2, 3, 4, 0] rfl) hP hD hS ?_ hF
              clear hF
              intro e19 x21 H locs ls hl hP hD hS hF
              refine lv_iload_n hx hb dX7_hides_118 rfl (lv_at hl 0 rfl) ?_
              exact hRet (e19, x21) _ _ _ _ hF rfl dX7_hides_119 hP hD hS
            refine lv_if_ge (tgt := 72) hx hb dX7_hides_65 (by decide) (fun c15 => ?_) (fun c15 => ?_)
            · have hF := q_it hF c15
              refine lv_iload_n hx hb dX7_hides_72 rfl (lv_at hl 3 rfl) ?_
              exact K73 _ _ _ _ (lv_sub hl [1, 2, 3, 0] rfl) hP hD hS hF
            · have hF := q_ie hF c15
              refine lv_iconst (v := 0) hx hb dX7_hides_68 (by decide) ?_
              refine lv_goto (tgt := 73) hx hb dX7_hides_69 (by decide) ?_
              exact K73 _ _ _ _ (lv_sub hl [1, 2, 3, 0] rfl) hP hD hS hF
          refine lv_if_lt (tgt := 62) hx hb dX7_hides_43 (by decide) (fun c12 => ?_) (fun c12 => ?_)
          · have hF := q_it hF c12
            exact K62 _ _ _ (lv_sub hl [0, 1, 2] rfl) hP hD hS hF
          · have hF := q_ie hF c12
            refine lv_aload_n hx hb dX7_hides_46 rfl (lv_at hl 0 rfl) ?_
            refine qg_M_X7_now hM hP fl_X7_16 dX7_hides_47 ?_
            refine lv_bipush (v := 48) hx hb dX7_hides_50 (by decide) ?_
            refine lv_iload_n hx hb dX7_hides_52 rfl (lv_at hl 2 rfl) ?_
            refine lv_iadd hx hb dX7_hides_53 ?_
            obtain ⟨h13, hF⟩ := q_gd_e hF
            refine ql_M_X7_now hM hP h13 dX7_hides_54 ?_
            refine lv_iconst (v := 1) hx hb dX7_hides_55 (by decide) ?_
            refine lv_icmp_ne (tgt := 62) hx hb dX7_hides_56 (by decide) (fun c14 => ?_) (fun c14 => ?_)
            · have hF := q_ie hF c14
              exact K62 _ _ _ (lv_sub hl [0, 1, 2] rfl) hP hD hS hF
            · have hF := q_it hF c14
              refine lv_bipush (v := -2) hx hb dX7_hides_59 (by decide) ?_
              exact hRet ((-2 : Int32), x) _ _ _ _ hF rfl dX7_hides_61 hP hD hS
      · have hF := q_it hF c9
        refine lv_iconst (v := -1) hx hb dX7_hides_27 (by decide) ?_
        exact hRet ((-1 : Int32), x) _ _ _ _ hF rfl dX7_hides_28 hP hD hS
theorem ky_X7_bunches : q_Y yX7_bunches cX7_bunches 3 (some .int) 0 := ⟨cw_X7_bunches, im_X7_bunches, se_X7_bunches, in_X7, by decide +kernel⟩
set_option maxHeartbeats 4000000 in
set_option maxRecDepth 100000 in
theorem c_X7_bunches (l : Launch) (D : va_G) (cI cJ : ClassId) (g : Nat → Nat) (ad : Nat → Nat) (x : IS) (res : Int32 × IS) (hF : f_X7_bunches x = some res) : q_Mi l yX7_bunches cX7_bunches 3 .int { frames := 5, cells := 0, slots := 0, locals := 116 } D cI cJ g (q_WM cI ad x) [.ref (ad 0)] (res.1) (q_WM cI ad (res.2)) := by
  refine q_ofi (res := res) (fun u : Int32 × IS => u.1) (fun u : Int32 × IS => (q_WM cI ad (u.2))) pl_X7 (Nat.le_of_ble_eq_true rfl) ?_
  intro p e s m args below meth c A Q hM hRet ls hl hP hD hS
  have hx := hM.1.1
  have hb := hM.1.2.1
  have hl : lv_has ls 3 [(0, .ref (ad 0))] := hl
  unfold f_X7_bunches at hF
  refine lv_iconst (v := 0) hx hb dX7_bunches_0 (by decide) ?_
  refine lv_istore_n (lv' := [(1, .int (0 : Int32)), (0, .ref (ad 0))]) hx hb dX7_bunches_1 rfl hl (by decide) rfl (fun ls hl => ?_)
  refine lv_iconst (v := 0) hx hb dX7_bunches_2 (by decide) ?_
  refine lv_istore_n (lv' := [(2, .int (0 : Int32)), (1, .int (0 : Int32)), (0, .ref (ad 0))]) hx hb dX7_bunches_3 rfl hl (by decide) rfl (fun ls hl => ?_)
  have L4 : ∀ (k : Int32 → IS → Option (Int32 × IS)) (n : Nat) (v1 : Int32) (v2 : Int32) (x4 : IS) (H : Heap) (locs : List Loc) (ls : Array Slot), lv_has ls 3 [(0, .ref (ad 0)), (1, .int v1), (2, .int v2)] → va_P D vwCl (q_WM cI ad x4) H → va_D A (q_WM cI ad x4) → va_S A s.heap H locs → (∀ (e3 : Int32) (x5 : IS) (H : Heap) (locs : List Loc) (ls : Array Slot), lv_has ls 3 [(1, .int e3)] → va_P D vwCl (q_WM cI ad x5) H → va_D A (q_WM cI ad x5) → va_S A s.heap H locs → k e3 x5 = some res → W p l e { frames := 5, cells := 0, slots := 0, locals := 116 } s m args below meth c H locs 0 0 Q (F0 m 48 ls [])) → f_X7_bunches_L4 k n v1 v2 x4 = some res → W p l e { frames := 5, cells := 0, slots := 0, locals := 116 } s m args below meth c H locs 0 0 Q (F0 m 4 ls []) := by
    intro k n
    induction n with
    | zero => intro v1 v2 x4 H locs ls hl hP hD hS hk hF; exact q_no hF
    | succ n ih =>
      intro v1 v2 x4 H locs ls hl hP hD hS hk hF
      have hF : f_X7_bunches_L4F k (f_X7_bunches_L4 k n) v1 v2 x4 = some res := hF
      unfold f_X7_bunches_L4F at hF
      refine lv_iload_n hx hb dX7_bunches_4 rfl (lv_at hl 2 rfl) ?_
      refine lv_aload_n hx hb dX7_bunches_5 rfl (lv_at hl 0 rfl) ?_
      refine qg_M_X7_cells hM hP fl_X7_48 dX7_bunches_6 ?_
      refine lv_icmp_ge (tgt := 48) hx hb dX7_bunches_9 (by decide) (fun c6 => ?_) (fun c6 => ?_)
      · have hF := q_it hF c6
        exact hk _ _ _ _ _ (lv_sub hl [1] rfl) hP hD hS hF
      · have hF := q_ie hF c6
        refine lv_iload_n hx hb dX7_bunches_12 rfl (lv_at hl 1 rfl) ?_
        refine lv_aload_n hx hb dX7_bunches_13 rfl (lv_at hl 0 rfl) ?_
        refine lv_iload_n hx hb dX7_bunches_14 rfl (lv_at hl 2 rfl) ?_
        obtain ⟨r7, x8, hC9, hF⟩ := q_b2_e hF
        refine q_calli hM (c_X7_isAlarm l D cI cJ g ad _ _ _ hC9) hP hD hS ky_X7_isAlarm ml_X7_133 rfl rfl ⟨Nat.le_of_ble_eq_true rfl, Nat.le_of_ble_eq_true rfl⟩ 0 rfl rfl rfl hl.1 rfl (Nat.le_of_ble_eq_true rfl) ⟨Nat.zero_le _, Nat.zero_le _⟩ dX7_bunches_15 (fun H locs hz10 hP hD hS => ?_)
        obtain ⟨J40, hJ40, hF⟩ := q_jn_e hF
        have K40 : ∀ (t20 : Int32) (x21 : IS) (H : Heap) (locs : List Loc) (ls : Array Slot), lv_has ls 3 [(0, .ref (ad 0)), (2, .int v2)] → va_P D vwCl (q_WM cI ad x21) H → va_D A (q_WM cI ad x21) → va_S A s.heap H locs → J40 t20 x21 = some res → W p l e { frames := 5, cells := 0, slots := 0, locals := 116 } s m args below meth c H locs 0 0 Q (F0 m 40 ls [.int t20, .int v1]) := by
          clear hF; intro t20 x21 H locs ls hl hP hD hS hF
          rw [hJ40] at hF
          try dsimp only at hF
          refine lv_iadd hx hb dX7_bunches_40 ?_
          refine lv_topi (fun v22 ev22 => ?_)
          have hF := q_let_e hF ev22
          refine lv_istore_n (lv' := [(1, .int v22), (0, .ref (ad 0)), (2, .int v2)]) hx hb dX7_bunches_41 rfl hl (by decide) rfl (fun ls hl => ?_)
          obtain ⟨v23, ev23⟩ : ∃ y : Int32, y = v2 + 1 := ⟨_, rfl⟩
          have hF := q_let_e hF ev23
          refine lv_iinc (v := v23) (lv' := [(2, .int v23), (1, .int v22), (0, .ref (ad 0))]) hx hb dX7_bunches_42 hl (k := 2) rfl (by rw [ev23]; rfl) (by decide) rfl (fun ls hl => ?_)
          refine lv_goto (tgt := 4) hx hb dX7_bunches_45 (by decide) ?_
          exact ih _ _ _ _ _ _ (lv_sub hl [2, 1, 0] rfl) hP hD hS hk hF
        obtain ⟨J39, hJ39, hF⟩ := q_jn_e hF
        have K39 : ∀ (x19 : IS) (H : Heap) (locs : List Loc) (ls : Array Slot), lv_has ls 3 [(0, .ref (ad 0)), (2, .int v2)] → va_P D vwCl (q_WM cI ad x19) H → va_D A (q_WM cI ad x19) → va_S A s.heap H locs → J39 x19 = some res → W p l e { frames := 5, cells := 0, slots := 0, locals := 116 } s m args below meth c H locs 0 0 Q (F0 m 39 ls [.int v1]) := by
          clear hF; intro x19 H locs ls hl hP hD hS hF
          rw [hJ39] at hF
          try dsimp only at hF
          refine lv_iconst (v := 0) hx hb dX7_bunches_39 (by decide) ?_
          exact K40 _ _ _ _ _ (lv_sub hl [0, 1] rfl) hP hD hS hF
        refine lv_if_eq (tgt := 39) hx hb dX7_bunches_18 (by decide) (fun c11 => ?_) (fun c11 => ?_)
        · have hF := q_it hF c11
          exact K39 _ _ _ _ (lv_sub hl [0, 2] rfl) hP hD hS hF
        · have hF := q_ie hF c11
          refine lv_iload_n hx hb dX7_bunches_21 rfl (lv_at hl 2 rfl) ?_
          obtain ⟨J35, hJ35, hF⟩ := q_jn_e hF
          have K35 : ∀ (x18 : IS) (H : Heap) (locs : List Loc) (ls : Array Slot), lv_has ls 3 [(0, .ref (ad 0)), (2, .int v2)] → va_P D vwCl (q_WM cI ad x18) H → va_D A (q_WM cI ad x18) → va_S A s.heap H locs → J35 x18 = some res → W p l e { frames := 5, cells := 0, slots := 0, locals := 116 } s m args below meth c H locs 0 0 Q (F0 m 35 ls [.int v1]) := by
            clear hF; intro x18 H locs ls hl hP hD hS hF
            rw [hJ35] at hF
            try dsimp only at hF
            refine lv_iconst (v := 1) hx hb dX7_bunches_35 (by decide) ?_
            refine lv_goto (tgt := 40) hx hb dX7_bunches_36 (by decide) ?_
            exact K40 _ _ _ _ _ (lv_sub hl [0, 1] rfl) hP hD hS hF
          refine lv_if_eq (tgt := 35) hx hb dX7_bunches_22 (by decide) (fun c12 => ?_) (fun c12 => ?_)
          · have hF := q_it hF c12
            exact K35 _ _ _ _ (lv_sub hl [0, 2] rfl) hP hD hS hF
          · have hF := q_ie hF c12
            refine lv_aload_n hx hb dX7_bunches_25 rfl (lv_at hl 0 rfl) ?_
            refine lv_iload_n hx hb dX7_bunches_26 rfl (lv_at hl 2 rfl) ?_
            refine lv_iconst (v := 1) hx hb dX7_bunches_27 (by decide) ?_
            refine lv_isub hx hb dX7_bunches_28 ?_
            obtain ⟨r13, x14, hC15, hF⟩ := q_b2_e hF
            refine q_calli hM (c_X7_isAlarm l D cI cJ g ad _ _ _ hC15) hP hD hS ky_X7_isAlarm ml_X7_133 rfl rfl ⟨Nat.le_of_ble_eq_true rfl, Nat.le_of_ble_eq_true rfl⟩ 0 rfl rfl rfl hl.1 rfl (Nat.le_of_ble_eq_true rfl) ⟨Nat.zero_le _, Nat.zero_le _⟩ dX7_bunches_29 (fun H locs hz16 hP hD hS => ?_)
            refine lv_if_ne (tgt := 39) hx hb dX7_bunches_32 (by decide) (fun c17 => ?_) (fun c17 => ?_)
            · have hF := q_ie hF c17
              exact K39 _ _ _ _ (lv_sub hl [0, 2] rfl) hP hD hS hF
            · have hF := q_it hF c17
              exact K35 _ _ _ _ (lv_sub hl [0, 2] rfl) hP hD hS hF
  refine L4 _ _ _ _ _ _ _ _ (lv_sub hl [2, 1, 0] rfl) hP hD hS ?_ hF
  clear hF
  intro e3 x5 H locs ls hl hP hD hS hF
  refine lv_iload_n hx hb dX7_bunches_48 rfl (lv_at hl 0 rfl) ?_
  exact hRet (e3, x5) _ _ _ _ hF rfl dX7_bunches_49 hP hD hS
end
