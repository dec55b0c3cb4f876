section
theorem ky_X6_write : q_Y yX6_write cX6_write 2 (some .int) 1 := ⟨cw_X6_write, im_X6_write, se_X6_write, in_X6, by decide +kernel⟩
set_option maxHeartbeats 4000000 in
set_option maxRecDepth 100000 in
theorem c_X6_write (l : Launch) (D : va_G) (cI cJ : ClassId) (g : Nat → Nat) (ad : Nat → Nat) (j : JS) (x : IS) (a1 : Int32) (res : Int32 × IS) (hF : f_X6_write x a1 = some res) : q_Mi l yX6_write cX6_write 2 .int { frames := 1, cells := 0, slots := 0, locals := 21 } D cI cJ g (q_WX cI cJ ad x j) [.ref (ad 0), .int a1] (res.1) (q_WX cI cJ ad (res.2) j) := by
  refine q_ofi (res := res) (fun u : Int32 × IS => u.1) (fun u : Int32 × IS => (q_WX cI cJ ad (u.2) j)) pl_X6 (Nat.le_of_ble_eq_true rfl) ?_
  intro p e s m args below meth c A Q hM hRet ls hl hP hD hS
  have hx := hM.1.1
  have hb := hM.1.2.1
  have hl : lv_has ls 2 [(0, .ref (ad 0)), (1, .int a1)] := hl
  unfold f_X6_write at hF
  refine lv_iload_n hx hb dX6_write_0 rfl (lv_at hl 1 rfl) ?_
  refine lv_bipush (v := 32) hx hb dX6_write_1 (by decide) ?_
  refine lv_icmp_lt (tgt := 12) hx hb dX6_write_3 (by decide) (fun c1 => ?_) (fun c1 => ?_)
  · have hF := q_it hF c1
    refine lv_iconst (v := -1) hx hb dX6_write_12 (by decide) ?_
    exact hRet ((-1 : Int32), x) _ _ _ _ hF rfl dX6_write_13 hP hD hS
  · have hF := q_ie hF c1
    refine lv_iload_n hx hb dX6_write_6 rfl (lv_at hl 1 rfl) ?_
    refine lv_bipush (v := 126) hx hb dX6_write_7 (by decide) ?_
    refine lv_icmp_le (tgt := 14) hx hb dX6_write_9 (by decide) (fun c2 => ?_) (fun c2 => ?_)
    · have hF := q_it hF c2
      refine lv_aload_n hx hb dX6_write_14 rfl (lv_at hl 0 rfl) ?_
      refine qg_X_X6_text hM hP fl_X6_10 dX6_write_15 ?_
      refine qg_X_X4_length hM hP fl_X6_65 dX6_write_18 ?_
      refine lv_sipush (v := 200) hx hb dX6_write_21 (by decide) ?_
      refine lv_icmp_lt (tgt := 30) hx hb dX6_write_24 (by decide) (fun c3 => ?_) (fun c3 => ?_)
      · have hF := q_it hF c3
        refine lv_aload_n hx hb dX6_write_30 rfl (lv_at hl 0 rfl) ?_
        refine qg_X_X6_text hM hP fl_X6_10 dX6_write_31 ?_
        refine lv_iload_n hx hb dX6_write_34 rfl (lv_at hl 1 rfl) ?_
        obtain ⟨x4, hC5, hF⟩ := q_b1_e hF
        refine q_callv hM (c_X4_append l D cI cJ g ad j _ _ _ hC5) hP hD hS ky_X4_append ml_X6_69 rfl rfl ⟨Nat.le_of_ble_eq_true rfl, Nat.le_of_ble_eq_true rfl⟩ 1 rfl rfl rfl hl.1 rfl (Nat.le_of_ble_eq_true rfl) ⟨Nat.zero_le _, Nat.zero_le _⟩ dX6_write_35 (fun H locs hP hD hS => ?_)
        refine lv_aload_n hx hb dX6_write_38 rfl (lv_at hl 0 rfl) ?_
        refine qg_X_X6_text hM hP fl_X6_10 dX6_write_39 ?_
        refine qg_X_X4_length hM hP fl_X6_65 dX6_write_42 ?_
        exact hRet ((x4 2 0), x4) _ _ _ _ hF rfl dX6_write_45 hP hD hS
      · have hF := q_ie hF c3
        refine lv_bipush (v := -3) hx hb dX6_write_27 (by decide) ?_
        exact hRet ((-3 : Int32), x) _ _ _ _ hF rfl dX6_write_29 hP hD hS
    · have hF := q_ie hF c2
      refine lv_iconst (v := -1) hx hb dX6_write_12 (by decide) ?_
      exact hRet ((-1 : Int32), x) _ _ _ _ hF rfl dX6_write_13 hP hD hS
theorem ky_X6_wipe : q_Y yX6_wipe cX6_wipe 2 (some .int) 0 := ⟨cw_X6_wipe, im_X6_wipe, se_X6_wipe, in_X6, by decide +kernel⟩
set_option maxHeartbeats 4000000 in
set_option maxRecDepth 100000 in
theorem c_X6_wipe (l : Launch) (D : va_G) (cI cJ : ClassId) (g : Nat → Nat) (ad : Nat → Nat) (j : JS) (x : IS) (res : Int32 × IS) (hF : f_X6_wipe x = some res) : q_Mi l yX6_wipe cX6_wipe 2 .int { frames := 0, cells := 0, slots := 0, locals := 0 } D cI cJ g (q_WX cI cJ ad x j) [.ref (ad 0)] (res.1) (q_WX cI cJ ad (res.2) j) := by
  refine q_ofi (res := res) (fun u : Int32 × IS => u.1) (fun u : Int32 × IS => (q_WX cI cJ ad (u.2) j)) pl_X6 (Nat.le_of_ble_eq_true rfl) ?_
  intro p e s m args below meth c A Q hM hRet ls hl hP hD hS
  have hx := hM.1.1
  have hb := hM.1.2.1
  have hl : lv_has ls 2 [(0, .ref (ad 0))] := hl
  unfold f_X6_wipe at hF
  refine lv_aload_n hx hb dX6_wipe_0 rfl (lv_at hl 0 rfl) ?_
  refine qg_X_X6_text hM hP fl_X6_10 dX6_wipe_1 ?_
  refine qg_X_X4_length hM hP fl_X6_65 dX6_wipe_4 ?_
  refine lv_topi (fun v1 ev1 => ?_)
  have hF := q_let_e hF ev1
  refine lv_istore_n (lv' := [(1, .int v1), (0, .ref (ad 0))]) hx hb dX6_wipe_7 rfl hl (by decide) rfl (fun ls hl => ?_)
  refine lv_aload_n hx hb dX6_wipe_8 rfl (lv_at hl 1 rfl) ?_
  refine qg_X_X6_text hM hP fl_X6_10 dX6_wipe_9 ?_
  refine lv_iconst (v := 0) hx hb dX6_wipe_12 (by decide) ?_
  refine qp_X_X4_length hM hP hD hS fl_X6_65 dX6_wipe_13 (fun x2 H locs ex2 hP hD hS => ?_)
  have hF := q_let_e hF ex2
  refine lv_iload_n hx hb dX6_wipe_16 rfl (lv_at hl 0 rfl) ?_
  exact hRet (v1, x2) _ _ _ _ hF rfl dX6_wipe_17 hP hD hS
theorem ky_X6_fault : q_Y yX6_fault cX6_fault 1 (some .int) 0 := ⟨cw_X6_fault, im_X6_fault, se_X6_fault, in_X6, by decide +kernel⟩
set_option maxHeartbeats 4000000 in
set_option maxRecDepth 100000 in
theorem c_X6_fault (l : Launch) (D : va_G) (cI cJ : ClassId) (g : Nat → Nat) (ad : Nat → Nat) (j : JS) (x : IS) (res : Int32 × IS) (hF : f_X6_fault x = some res) : q_Mi l yX6_fault cX6_fault 1 .int { frames := 8, cells := 0, slots := 0, locals := 180 } D cI cJ g (q_WX cI cJ ad x j) [.ref (ad 0)] (res.1) (q_WX cI cJ ad (res.2) j) := by
  refine q_ofi (res := res) (fun u : Int32 × IS => u.1) (fun u : Int32 × IS => (q_WX cI cJ ad (u.2) j)) pl_X6 (Nat.le_of_ble_eq_true rfl) ?_
  intro p e s m args below meth c A Q hM hRet ls hl hP hD hS
  have hx := hM.1.1
  have hb := hM.1.2.1
  have hl : lv_has ls 1 [(0, .ref (ad 0))] := hl
  unfold f_X6_fault at hF
  refine lv_aload_n hx hb dX6_fault_0 rfl (lv_at hl 0 rfl) ?_
  refine qg_X_X6_text hM hP fl_X6_10 dX6_fault_1 ?_
  refine lv_aload_n hx hb dX6_fault_4 rfl (lv_at hl 0 rfl) ?_
  refine qg_X_X6_told hM hP fl_X6_19 dX6_fault_5 ?_
  obtain ⟨r1, x2, hC3, hF⟩ := q_b2_e hF
  refine q_calli hM (c_X4_readInto l D cI cJ g ad j _ _ hC3) hP hD hS ky_X4_readInto ml_X6_73 rfl rfl ⟨Nat.le_of_ble_eq_true rfl, Nat.le_of_ble_eq_true rfl⟩ 1 rfl rfl rfl hl.1 rfl (Nat.le_of_ble_eq_true rfl) ⟨Nat.zero_le _, Nat.zero_le _⟩ dX6_fault_8 (fun H locs hz4 hP hD hS => ?_)
  exact hRet (r1, x2) _ _ _ _ hF rfl dX6_fault_11 hP hD hS
theorem ky_X6_layWhatIsTold : q_Y yX6_layWhatIsTold cX6_layWhatIsTold 1 none 0 := ⟨cw_X6_layWhatIsTold, im_X6_layWhatIsTold, se_X6_layWhatIsTold, in_X6, by decide +kernel⟩
set_option maxHeartbeats 4000000 in
set_option maxRecDepth 100000 in
theorem c_X6_layWhatIsTold (l : Launch) (D : va_G) (cI cJ : ClassId) (g : Nat → Nat) (ad : Nat → Nat) (j : JS) (x : IS) (res : IS) (hF : f_X6_layWhatIsTold x = some res) : q_Mv l yX6_layWhatIsTold cX6_layWhatIsTold 1 { frames := 2, cells := 0, slots := 0, locals := 47 } D cI cJ g (q_WX cI cJ ad x j) [.ref (ad 0)] (q_WX cI cJ ad res j) := by
  refine q_ofv (res := res) (fun u : IS => (q_WX cI cJ ad u j)) pl_X6 (Nat.le_of_ble_eq_true rfl) ?_
  intro p e s m args below meth c A Q hM hRet ls hl hP hD hS
  have hx := hM.1.1
  have hb := hM.1.2.1
  have hl : lv_has ls 1 [(0, .ref (ad 0))] := hl
  unfold f_X6_layWhatIsTold at hF
  refine lv_aload_n hx hb dX6_layWhatIsTold_0 rfl (lv_at hl 0 rfl) ?_
  refine qg_X_X6_row hM hP fl_X6_26 dX6_layWhatIsTold_1 ?_
  refine lv_aload_n hx hb dX6_layWhatIsTold_4 rfl (lv_at hl 0 rfl) ?_
  refine qg_X_X6_told hM hP fl_X6_19 dX6_layWhatIsTold_5 ?_
  obtain ⟨x1, hC2, hF⟩ := q_b1_e hF
  refine q_callv hM (c_X3_take l D cI cJ g ad j _ _ hC2) hP hD hS ky_X3_take ml_X6_81 rfl rfl ⟨Nat.le_of_ble_eq_true rfl, Nat.le_of_ble_eq_true rfl⟩ 3 rfl rfl rfl hl.1 rfl (Nat.le_of_ble_eq_true rfl) ⟨Nat.zero_le _, Nat.zero_le _⟩ dX6_layWhatIsTold_8 (fun H locs hP hD hS => ?_)
  refine lv_aload_n hx hb dX6_layWhatIsTold_11 rfl (lv_at hl 0 rfl) ?_
  refine qg_X_X6_dice hM hP fl_X6_40 dX6_layWhatIsTold_12 ?_
  refine lv_aload_n hx hb dX6_layWhatIsTold_15 rfl (lv_at hl 0 rfl) ?_
  refine qg_X_X6_told hM hP fl_X6_19 dX6_layWhatIsTold_16 ?_
  obtain ⟨x3, hC4, hF⟩ := q_b1_e hF
  refine q_callv hM (c_X1_take l D cI cJ g ad j _ _ hC4) hP hD hS ky_X1_take ml_X6_85 rfl rfl ⟨Nat.le_of_ble_eq_true rfl, Nat.le_of_ble_eq_true rfl⟩ 5 rfl rfl rfl hl.1 rfl (Nat.le_of_ble_eq_true rfl) ⟨Nat.zero_le _, Nat.zero_le _⟩ dX6_layWhatIsTold_19 (fun H locs hP hD hS => ?_)
  refine lv_aload_n hx hb dX6_layWhatIsTold_22 rfl (lv_at hl 0 rfl) ?_
  refine qg_X_X6_past hM hP fl_X6_47 dX6_layWhatIsTold_23 ?_
  refine lv_iconst (v := 0) hx hb dX6_layWhatIsTold_26 (by decide) ?_
  refine qp_X_X2_size hM hP hD hS fl_X6_86 dX6_layWhatIsTold_27 (fun x5 H locs ex5 hP hD hS => ?_)
  have hF := q_let_e hF ex5
  exact hRet _ _ _ _ _ hF dX6_layWhatIsTold_30 hP hD hS
theorem ky_X6_lay : q_Y yX6_lay cX6_lay 1 (some .int) 0 := ⟨cw_X6_lay, im_X6_lay, se_X6_lay, in_X6, by decide +kernel⟩
set_option maxHeartbeats 4000000 in
set_option maxRecDepth 100000 in
theorem c_X6_lay (l : Launch) (D : va_G) (cI cJ : ClassId) (g : Nat → Nat) (ad : Nat → Nat) (j : JS) (x : IS) (res : Int32 × IS) (hF : f_X6_lay x = some res) : q_Mi l yX6_lay cX6_lay 1 .int { frames := 8, cells := 0, slots := 0, locals := 180 } D cI cJ g (q_WX cI cJ ad x j) [.ref (ad 0)] (res.1) (q_WX cI cJ ad (res.2) j) := by
  refine q_ofi (res := res) (fun u : Int32 × IS => u.1) (fun u : Int32 × IS => (q_WX cI cJ ad (u.2) j)) pl_X6 (Nat.le_of_ble_eq_true rfl) ?_
  intro p e s m args below meth c A Q hM hRet ls hl hP hD hS
  have hx := hM.1.1
  have hb := hM.1.2.1
  have hl : lv_has ls 1 [(0, .ref (ad 0))] := hl
  unfold f_X6_lay at hF
  refine lv_aload_n hx hb dX6_lay_0 rfl (lv_at hl 0 rfl) ?_
  refine qg_X_X6_text hM hP fl_X6_10 dX6_lay_1 ?_
  refine lv_aload_n hx hb dX6_lay_4 rfl (lv_at hl 0 rfl) ?_
  refine qg_X_X6_told hM hP fl_X6_19 dX6_lay_5 ?_
  obtain ⟨r1, x2, hC3, hF⟩ := q_b2_e hF
  refine q_calli hM (c_X4_readInto l D cI cJ g ad j _ _ hC3) hP hD hS ky_X4_readInto ml_X6_73 rfl rfl ⟨Nat.le_of_ble_eq_true rfl, Nat.le_of_ble_eq_true rfl⟩ 1 rfl rfl rfl hl.1 rfl (Nat.le_of_ble_eq_true rfl) ⟨Nat.zero_le _, Nat.zero_le _⟩ dX6_lay_8 (fun H locs hz4 hP hD hS => ?_)
  refine lv_bipush (v := -4) hx hb dX6_lay_11 (by decide) ?_
  refine lv_icmp_ne (tgt := 26) hx hb dX6_lay_13 (by decide) (fun c5 => ?_) (fun c5 => ?_)
  · have hF := q_ie hF c5
    refine lv_bipush (v := -2) hx hb dX6_lay_26 (by decide) ?_
    exact hRet ((-2 : Int32), x2) _ _ _ _ hF rfl dX6_lay_28 hP hD hS
  · have hF := q_it hF c5
    refine lv_aload_n hx hb dX6_lay_16 rfl (lv_at hl 0 rfl) ?_
    refine qg_X_X6_told hM hP fl_X6_19 dX6_lay_17 ?_
    refine qg_X_X5_size hM hP fl_X6_77 dX6_lay_20 ?_
    refine lv_if_ne (tgt := 29) hx hb dX6_lay_23 (by decide) (fun c6 => ?_) (fun c6 => ?_)
    · have hF := q_ie hF c6
      refine lv_aload_n hx hb dX6_lay_29 rfl (lv_at hl 0 rfl) ?_
      obtain ⟨x7, hC8, hF⟩ := q_b1_e hF
      refine q_callv hM (c_X6_layWhatIsTold l D cI cJ g ad j _ _ hC8) hP hD hS ky_X6_layWhatIsTold ml_X6_62 rfl rfl ⟨Nat.le_of_ble_eq_true rfl, Nat.le_of_ble_eq_true rfl⟩ 0 rfl rfl rfl hl.1 rfl (Nat.le_of_ble_eq_true rfl) ⟨Nat.zero_le _, Nat.zero_le _⟩ dX6_lay_30 (fun H locs hP hD hS => ?_)
      refine lv_aload_n hx hb dX6_lay_33 rfl (lv_at hl 0 rfl) ?_
      refine qg_X_X6_row hM hP fl_X6_26 dX6_lay_34 ?_
      refine qg_X_X3_size hM hP fl_X6_80 dX6_lay_37 ?_
      exact hRet ((x7 13 0), x7) _ _ _ _ hF rfl dX6_lay_40 hP hD hS
    · have hF := q_it hF c6
      refine lv_bipush (v := -2) hx hb dX6_lay_26 (by decide) ?_
      exact hRet ((-2 : Int32), x2) _ _ _ _ hF rfl dX6_lay_28 hP hD hS
theorem ky_X6_isPower : q_YS yX6_isPower cX6_isPower 1 (some .boolean) 1 := ⟨cw_X6_isPower, st_X6_isPower, in_X6, by decide +kernel⟩
set_option maxHeartbeats 4000000 in
set_option maxRecDepth 100000 in
theorem c_X6_isPower (l : Launch) (D : va_G) (cI cJ : ClassId) (g : Nat → Nat) (w : va_W) (a1 : Int32) (res : Int32) (hF : f_X6_isPower a1 = some res) : q_Mi l yX6_isPower cX6_isPower 1 .boolean { frames := 0, cells := 0, slots := 0, locals := 0 } D cI cJ g w [.int a1] (res) w := by
  refine q_ofi (res := res) (fun u : Int32 => u) (fun _ : Int32 => w) pl_X6 (Nat.le_of_ble_eq_true rfl) ?_
  intro p e s m args below meth c A Q hM hRet ls hl hP hD hS
  have hx := hM.1.1
  have hb := hM.1.2.1
  have hl : lv_has ls 1 [(0, .int a1)] := hl
  unfold f_X6_isPower at hF
  refine lv_iload_n hx hb dX6_isPower_0 rfl (lv_at hl 0 rfl) ?_
  refine lv_if_lt (tgt := 14) hx hb dX6_isPower_1 (by decide) (fun c1 => ?_) (fun c1 => ?_)
  · have hF := q_it hF c1
    refine lv_iconst (v := 0) hx hb dX6_isPower_14 (by decide) ?_
    exact hRet (0 : Int32) _ _ _ _ hF narrow_b0 dX6_isPower_15 hP hD hS
  · have hF := q_ie hF c1
    refine lv_iload_n hx hb dX6_isPower_4 rfl (lv_at hl 0 rfl) ?_
    refine lv_bipush (v := 99) hx hb dX6_isPower_5 (by decide) ?_
    refine lv_icmp_gt (tgt := 14) hx hb dX6_isPower_7 (by decide) (fun c2 => ?_) (fun c2 => ?_)
    · have hF := q_it hF c2
      refine lv_iconst (v := 0) hx hb dX6_isPower_14 (by decide) ?_
      exact hRet (0 : Int32) _ _ _ _ hF narrow_b0 dX6_isPower_15 hP hD hS
    · have hF := q_ie hF c2
      refine lv_iconst (v := 1) hx hb dX6_isPower_10 (by decide) ?_
      refine lv_goto (tgt := 15) hx hb dX6_isPower_11 (by decide) ?_
      exact hRet (1 : Int32) _ _ _ _ hF narrow_b1 dX6_isPower_15 hP hD hS
theorem ky_X6_power : q_Y yX6_power cX6_power 4 (some .int) 2 := ⟨cw_X6_power, im_X6_power, se_X6_power, in_X6, by decide +kernel⟩
set_option maxHeartbeats 4000000 in
set_option maxRecDepth 100000 in
theorem c_X6_power (l : Launch) (D : va_G) (cI cJ : ClassId) (g : Nat → Nat) (ad : Nat → Nat) (j : JS) (x : IS) (a1 : Int32) (a2 : Int32) (res : Int32 × IS) (hF : f_X6_power x a1 a2 = some res) : q_Mi l yX6_power cX6_power 4 .int { frames := 3, cells := 0, slots := 0, locals := 69 } D cI cJ g (q_WX cI cJ ad x j) [.ref (ad 0), .int a1, .int a2] (res.1) (q_WX cI cJ ad (res.2) j) := by
  refine q_ofi (res := res) (fun u : Int32 × IS => u.1) (fun u : Int32 × IS => (q_WX cI cJ ad (u.2) j)) pl_X6 (Nat.le_of_ble_eq_true rfl) ?_
  intro p e s m args below meth c A Q hM hRet ls hl hP hD hS
  have hx := hM.1.1
  have hb := hM.1.2.1
  have hl : lv_has ls 4 [(0, .ref (ad 0)), (1, .int a1), (2, .int a2)] := hl
  unfold f_X6_power at hF
  refine lv_aload_n hx hb dX6_power_0 rfl (lv_at hl 0 rfl) ?_
  refine qg_X_X6_row hM hP fl_X6_26 dX6_power_1 ?_
  refine lv_iload_n hx hb dX6_power_4 rfl (lv_at hl 1 rfl) ?_
  obtain ⟨r1, hC2, hF⟩ := q_b1_e hF
  refine q_calli hM (c_X3_has l D cI cJ g ad j _ _ _ hC2) hP hD hS ky_X3_has ml_X6_87 rfl rfl ⟨Nat.le_of_ble_eq_true rfl, Nat.le_of_ble_eq_true rfl⟩ 3 rfl rfl rfl hl.1 rfl (Nat.le_of_ble_eq_true rfl) ⟨Nat.zero_le _, Nat.zero_le _⟩ dX6_power_5 (fun H locs hz3 hP hD hS => ?_)
  refine lv_if_eq (tgt := 18) hx hb dX6_power_8 (by decide) (fun c4 => ?_) (fun c4 => ?_)
  · have hF := q_it hF c4
    refine lv_iconst (v := -1) hx hb dX6_power_18 (by decide) ?_
    exact hRet ((-1 : Int32), x) _ _ _ _ hF rfl dX6_power_19 hP hD hS
  · have hF := q_ie hF c4
    refine lv_iload_n hx hb dX6_power_11 rfl (lv_at hl 2 rfl) ?_
    obtain ⟨r5, hC6, hF⟩ := q_b1_e hF
    refine q_calliS hM (c_X6_isPower l D cI cJ g (q_WX cI cJ ad x j) _ _ hC6) hP hD hS ky_X6_isPower ml_X6_91 rfl rfl ⟨Nat.le_of_ble_eq_true rfl, Nat.le_of_ble_eq_true rfl⟩ rfl hl.1 rfl (Nat.le_of_ble_eq_true rfl) ⟨Nat.zero_le _, Nat.zero_le _⟩ dX6_power_12 (fun H locs hz7 hP hD hS => ?_)
    refine lv_if_ne (tgt := 20) hx hb dX6_power_15 (by decide) (fun c8 => ?_) (fun c8 => ?_)
    · have hF := q_ie hF c8
      refine lv_aload_n hx hb dX6_power_20 rfl (lv_at hl 0 rfl) ?_
      refine qg_X_X6_row hM hP fl_X6_26 dX6_power_21 ?_
      refine qg_X_X3_powers hM hP fl_X6_94 dX6_power_24 ?_
      refine lv_iload_n hx hb dX6_power_27 rfl (lv_at hl 1 rfl) ?_
      obtain ⟨h9, hF⟩ := q_gd_e hF
      refine ql_X_X3_powers hM hP h9 dX6_power_28 ?_
      refine lv_topi (fun v10 ev10 => ?_)
      have hF := q_let_e hF ev10
      refine lv_istore_n (lv' := [(3, .int v10), (0, .ref (ad 0)), (1, .int a1), (2, .int a2)]) hx hb dX6_power_29 rfl hl (by decide) rfl (fun ls hl => ?_)
      refine lv_iload_n hx hb dX6_power_30 rfl (lv_at hl 0 rfl) ?_
      refine lv_iload_n hx hb dX6_power_31 rfl (lv_at hl 3 rfl) ?_
      refine lv_icmp_ne (tgt := 38) hx hb dX6_power_32 (by decide) (fun c11 => ?_) (fun c11 => ?_)
      · have hF := q_ie hF c11
        refine lv_aload_n hx hb dX6_power_38 rfl (lv_at hl 1 rfl) ?_
        refine qg_X_X6_past hM hP fl_X6_47 dX6_power_39 ?_
        refine lv_iconst (v := 0) hx hb dX6_power_42 (by decide) ?_
        refine lv_iload_n hx hb dX6_power_43 rfl (lv_at hl 2 rfl) ?_
        refine lv_iload_n hx hb dX6_power_44 rfl (lv_at hl 0 rfl) ?_
        obtain ⟨x12, hC13, hF⟩ := q_b1_e hF
        refine q_callv hM (c_X2_keep l D cI cJ g ad j _ _ _ _ _ hC13) hP hD hS ky_X2_keep ml_X6_97 rfl rfl ⟨Nat.le_of_ble_eq_true rfl, Nat.le_of_ble_eq_true rfl⟩ 6 rfl rfl rfl hl.1 rfl (Nat.le_of_ble_eq_true rfl) ⟨Nat.zero_le _, Nat.zero_le _⟩ dX6_power_45 (fun H locs hP hD hS => ?_)
        refine lv_aload_n hx hb dX6_power_48 rfl (lv_at hl 1 rfl) ?_
        refine qg_X_X6_row hM hP fl_X6_26 dX6_power_49 ?_
        refine lv_iload_n hx hb dX6_power_52 rfl (lv_at hl 2 rfl) ?_
        refine lv_iload_n hx hb dX6_power_53 rfl (lv_at hl 3 rfl) ?_
        obtain ⟨x14, hC15, hF⟩ := q_b1_e hF
        refine q_callv hM (c_X3_setPower l D cI cJ g ad j _ _ _ _ hC15) hP hD hS ky_X3_setPower ml_X6_101 rfl rfl ⟨Nat.le_of_ble_eq_true rfl, Nat.le_of_ble_eq_true rfl⟩ 3 rfl rfl rfl hl.1 rfl (Nat.le_of_ble_eq_true rfl) ⟨Nat.zero_le _, Nat.zero_le _⟩ dX6_power_54 (fun H locs hP hD hS => ?_)
        refine lv_iload_n hx hb dX6_power_57 rfl (lv_at hl 0 rfl) ?_
        exact hRet (v10, x14) _ _ _ _ hF rfl dX6_power_58 hP hD hS
      · have hF := q_it hF c11
        refine lv_bipush (v := -2) hx hb dX6_power_35 (by decide) ?_
        exact hRet ((-2 : Int32), x) _ _ _ _ hF rfl dX6_power_37 hP hD hS
    · have hF := q_it hF c8
      refine lv_iconst (v := -1) hx hb dX6_power_18 (by decide) ?_
      exact hRet ((-1 : Int32), x) _ _ _ _ hF rfl dX6_power_19 hP hD hS
theorem ky_X6_leave : q_Y yX6_leave cX6_leave 4 (some .int) 2 := ⟨cw_X6_leave, im_X6_leave, se_X6_leave, in_X6, by decide +kernel⟩
set_option maxHeartbeats 4000000 in
set_option maxRecDepth 100000 in
theorem c_X6_leave (l : Launch) (D : va_G) (cI cJ : ClassId) (g : Nat → Nat) (ad : Nat → Nat) (j : JS) (x : IS) (a1 : Int32) (a2 : Int32) (res : Int32 × IS) (hF : f_X6_leave x a1 a2 = some res) : q_Mi l yX6_leave cX6_leave 4 .int { frames := 3, cells := 0, slots := 0, locals := 69 } D cI cJ g (q_WX cI cJ ad x j) [.ref (ad 0), .int a1, .int a2] (res.1) (q_WX cI cJ ad (res.2) j) := by
  refine q_ofi (res := res) (fun u : Int32 × IS => u.1) (fun u : Int32 × IS => (q_WX cI cJ ad (u.2) j)) pl_X6 (Nat.le_of_ble_eq_true rfl) ?_
  intro p e s m args below meth c A Q hM hRet ls hl hP hD hS
  have hx := hM.1.1
  have hb := hM.1.2.1
  have hl : lv_has ls 4 [(0, .ref (ad 0)), (1, .int a1), (2, .int a2)] := hl
  unfold f_X6_leave at hF
  refine lv_aload_n hx hb dX6_leave_0 rfl (lv_at hl 0 rfl) ?_
  refine qg_X_X6_row hM hP fl_X6_26 dX6_leave_1 ?_
  refine lv_iload_n hx hb dX6_leave_4 rfl (lv_at hl 1 rfl) ?_
  obtain ⟨r1, hC2, hF⟩ := q_b1_e hF
  refine q_calli hM (c_X3_has l D cI cJ g ad j _ _ _ hC2) hP hD hS ky_X3_has ml_X6_87 rfl rfl ⟨Nat.le_of_ble_eq_true rfl, Nat.le_of_ble_eq_true rfl⟩ 3 rfl rfl rfl hl.1 rfl (Nat.le_of_ble_eq_true rfl) ⟨Nat.zero_le _, Nat.zero_le _⟩ dX6_leave_5 (fun H locs hz3 hP hD hS => ?_)
  refine lv_if_eq (tgt := 20) hx hb dX6_leave_8 (by decide) (fun c4 => ?_) (fun c4 => ?_)
  · have hF := q_it hF c4
    refine lv_iconst (v := -1) hx hb dX6_leave_20 (by decide) ?_
    exact hRet ((-1 : Int32), x) _ _ _ _ hF rfl dX6_leave_21 hP hD hS
  · have hF := q_ie hF c4
    refine lv_iload_n hx hb dX6_leave_11 rfl (lv_at hl 2 rfl) ?_
    refine lv_if_lt (tgt := 20) hx hb dX6_leave_12 (by decide) (fun c5 => ?_) (fun c5 => ?_)
    · have hF := q_it hF c5
      refine lv_iconst (v := -1) hx hb dX6_leave_20 (by decide) ?_
      exact hRet ((-1 : Int32), x) _ _ _ _ hF rfl dX6_leave_21 hP hD hS
    · have hF := q_ie hF c5
      refine lv_iload_n hx hb dX6_leave_15 rfl (lv_at hl 2 rfl) ?_
      refine lv_iconst (v := 1) hx hb dX6_leave_16 (by decide) ?_
      refine lv_icmp_le (tgt := 22) hx hb dX6_leave_17 (by decide) (fun c6 => ?_) (fun c6 => ?_)
      · have hF := q_it hF c6
        refine lv_aload_n hx hb dX6_leave_22 rfl (lv_at hl 0 rfl) ?_
        refine qg_X_X6_row hM hP fl_X6_26 dX6_leave_23 ?_
        refine qg_X_X3_left hM hP fl_X6_105 dX6_leave_26 ?_
        refine lv_iload_n hx hb dX6_leave_29 rfl (lv_at hl 1 rfl) ?_
        obtain ⟨h7, hF⟩ := q_gd_e hF
        refine ql_X_X3_left hM hP h7 dX6_leave_30 ?_
        refine lv_topi (fun v8 ev8 => ?_)
        have hF := q_let_e hF ev8
        refine lv_istore_n (lv' := [(3, .int v8), (0, .ref (ad 0)), (1, .int a1), (2, .int a2)]) hx hb dX6_leave_31 rfl hl (by decide) rfl (fun ls hl => ?_)
        refine lv_iload_n hx hb dX6_leave_32 rfl (lv_at hl 0 rfl) ?_
        refine lv_iload_n hx hb dX6_leave_33 rfl (lv_at hl 3 rfl) ?_
        refine lv_icmp_ne (tgt := 40) hx hb dX6_leave_34 (by decide) (fun c9 => ?_) (fun c9 => ?_)
        · have hF := q_ie hF c9
          refine lv_aload_n hx hb dX6_leave_40 rfl (lv_at hl 1 rfl) ?_
          refine qg_X_X6_past hM hP fl_X6_47 dX6_leave_41 ?_
          refine lv_iconst (v := 1) hx hb dX6_leave_44 (by decide) ?_
          refine lv_iload_n hx hb dX6_leave_45 rfl (lv_at hl 2 rfl) ?_
          refine lv_iload_n hx hb dX6_leave_46 rfl (lv_at hl 0 rfl) ?_
          obtain ⟨x10, hC11, hF⟩ := q_b1_e hF
          refine q_callv hM (c_X2_keep l D cI cJ g ad j _ _ _ _ _ hC11) hP hD hS ky_X2_keep ml_X6_97 rfl rfl ⟨Nat.le_of_ble_eq_true rfl, Nat.le_of_ble_eq_true rfl⟩ 6 rfl rfl rfl hl.1 rfl (Nat.le_of_ble_eq_true rfl) ⟨Nat.zero_le _, Nat.zero_le _⟩ dX6_leave_47 (fun H locs hP hD hS => ?_)
          refine lv_aload_n hx hb dX6_leave_50 rfl (lv_at hl 1 rfl) ?_
          refine qg_X_X6_row hM hP fl_X6_26 dX6_leave_51 ?_
          refine lv_iload_n hx hb dX6_leave_54 rfl (lv_at hl 2 rfl) ?_
          refine lv_iload_n hx hb dX6_leave_55 rfl (lv_at hl 3 rfl) ?_
          obtain ⟨x12, hC13, hF⟩ := q_b1_e hF
          refine q_callv hM (c_X3_setLeft l D cI cJ g ad j _ _ _ _ hC13) hP hD hS ky_X3_setLeft ml_X6_108 rfl rfl ⟨Nat.le_of_ble_eq_true rfl, Nat.le_of_ble_eq_true rfl⟩ 3 rfl rfl rfl hl.1 rfl (Nat.le_of_ble_eq_true rfl) ⟨Nat.zero_le _, Nat.zero_le _⟩ dX6_leave_56 (fun H locs hP hD hS => ?_)
          refine lv_aload_n hx hb dX6_leave_59 rfl (lv_at hl 1 rfl) ?_
          refine qg_X_X6_row hM hP fl_X6_26 dX6_leave_60 ?_
          obtain ⟨r14, hC15, hF⟩ := q_b1_e hF
          refine q_calli hM (c_X3_howManyLeft l D cI cJ g ad j _ _ hC15) hP hD hS ky_X3_howManyLeft ml_X6_111 rfl rfl ⟨Nat.le_of_ble_eq_true rfl, Nat.le_of_ble_eq_true rfl⟩ 3 rfl rfl rfl hl.1 rfl (Nat.le_of_ble_eq_true rfl) ⟨Nat.zero_le _, Nat.zero_le _⟩ dX6_leave_63 (fun H locs hz16 hP hD hS => ?_)
          exact hRet (r14, x12) _ _ _ _ hF rfl dX6_leave_66 hP hD hS
        · have hF := q_it hF c9
          refine lv_bipush (v := -2) hx hb dX6_leave_37 (by decide) ?_
          exact hRet ((-2 : Int32), x) _ _ _ _ hF rfl dX6_leave_39 hP hD hS
      · have hF := q_ie hF c6
        refine lv_iconst (v := -1) hx hb dX6_leave_20 (by decide) ?_
        exact hRet ((-1 : Int32), x) _ _ _ _ hF rfl dX6_leave_21 hP hD hS
theorem ky_X6_look : q_Y yX6_look cX6_look 4 (some .int) 2 := ⟨cw_X6_look, im_X6_look, se_X6_look, in_X6, by decide +kernel⟩
set_option maxHeartbeats 4000000 in
set_option maxRecDepth 100000 in
theorem c_X6_look (l : Launch) (D : va_G) (cI cJ : ClassId) (g : Nat → Nat) (ad : Nat → Nat) (j : JS) (x : IS) (a1 : Int32) (a2 : Int32) (res : Int32 × IS) (hF : f_X6_look x a1 a2 = some res) : q_Mi l yX6_look cX6_look 4 .int { frames := 3, cells := 0, slots := 0, locals := 69 } D cI cJ g (q_WX cI cJ ad x j) [.ref (ad 0), .int a1, .int a2] (res.1) (q_WX cI cJ ad (res.2) j) := by
  refine q_ofi (res := res) (fun u : Int32 × IS => u.1) (fun u : Int32 × IS => (q_WX cI cJ ad (u.2) j)) pl_X6 (Nat.le_of_ble_eq_true rfl) ?_
  intro p e s m args below meth c A Q hM hRet ls hl hP hD hS
  have hx := hM.1.1
  have hb := hM.1.2.1
  have hl : lv_has ls 4 [(0, .ref (ad 0)), (1, .int a1), (2, .int a2)] := hl
  unfold f_X6_look at hF
  refine lv_iload_n hx hb dX6_look_0 rfl (lv_at hl 1 rfl) ?_
  refine lv_if_lt (tgt := 17) hx hb dX6_look_1 (by decide) (fun c1 => ?_) (fun c1 => ?_)
  · have hF := q_it hF c1
    refine lv_iconst (v := -1) hx hb dX6_look_17 (by decide) ?_
    exact hRet ((-1 : Int32), x) _ _ _ _ hF rfl dX6_look_18 hP hD hS
  · have hF := q_ie hF c1
    refine lv_iload_n hx hb dX6_look_4 rfl (lv_at hl 1 rfl) ?_
    refine lv_iconst (v := 4) hx hb dX6_look_5 (by decide) ?_
    refine lv_icmp_gt (tgt := 17) hx hb dX6_look_6 (by decide) (fun c2 => ?_) (fun c2 => ?_)
    · have hF := q_it hF c2
      refine lv_iconst (v := -1) hx hb dX6_look_17 (by decide) ?_
      exact hRet ((-1 : Int32), x) _ _ _ _ hF rfl dX6_look_18 hP hD hS
    · have hF := q_ie hF c2
      refine lv_iload_n hx hb dX6_look_9 rfl (lv_at hl 1 rfl) ?_
      refine lv_iload_n hx hb dX6_look_10 rfl (lv_at hl 2 rfl) ?_
      obtain ⟨r3, hC4, hF⟩ := q_b1_e hF
      refine q_calliS hM (c_X6_isLook l D cI cJ g (q_WX cI cJ ad x j) _ _ _ hC4) hP hD hS ky_X6_isLook ml_X6_115 rfl rfl ⟨Nat.le_of_ble_eq_true rfl, Nat.le_of_ble_eq_true rfl⟩ rfl hl.1 rfl (Nat.le_of_ble_eq_true rfl) ⟨Nat.zero_le _, Nat.zero_le _⟩ dX6_look_11 (fun H locs hz5 hP hD hS => ?_)
      refine lv_if_ne (tgt := 19) hx hb dX6_look_14 (by decide) (fun c6 => ?_) (fun c6 => ?_)
      · have hF := q_ie hF c6
        refine lv_aload_n hx hb dX6_look_19 rfl (lv_at hl 0 rfl) ?_
        refine qg_X_X6_row hM hP fl_X6_26 dX6_look_20 ?_
        refine qg_X_X3_look hM hP fl_X6_119 dX6_look_23 ?_
        refine lv_iload_n hx hb dX6_look_26 rfl (lv_at hl 1 rfl) ?_
        obtain ⟨h7, hF⟩ := q_gd_e hF
        refine ql_X_X3_look hM hP h7 dX6_look_27 ?_
        refine lv_topi (fun v8 ev8 => ?_)
        have hF := q_let_e hF ev8
        refine lv_istore_n (lv' := [(3, .int v8), (0, .ref (ad 0)), (1, .int a1), (2, .int a2)]) hx hb dX6_look_28 rfl hl (by decide) rfl (fun ls hl => ?_)
        refine lv_iload_n hx hb dX6_look_29 rfl (lv_at hl 0 rfl) ?_
        refine lv_iload_n hx hb dX6_look_30 rfl (lv_at hl 3 rfl) ?_
        refine lv_icmp_ne (tgt := 37) hx hb dX6_look_31 (by decide) (fun c9 => ?_) (fun c9 => ?_)
        · have hF := q_ie hF c9
          refine lv_aload_n hx hb dX6_look_37 rfl (lv_at hl 1 rfl) ?_
          refine qg_X_X6_past hM hP fl_X6_47 dX6_look_38 ?_
          refine lv_iconst (v := 2) hx hb dX6_look_41 (by decide) ?_
          refine lv_iload_n hx hb dX6_look_42 rfl (lv_at hl 2 rfl) ?_
          refine lv_iload_n hx hb dX6_look_43 rfl (lv_at hl 0 rfl) ?_
          obtain ⟨x10, hC11, hF⟩ := q_b1_e hF
          refine q_callv hM (c_X2_keep l D cI cJ g ad j _ _ _ _ _ hC11) hP hD hS ky_X2_keep ml_X6_97 rfl rfl ⟨Nat.le_of_ble_eq_true rfl, Nat.le_of_ble_eq_true rfl⟩ 6 rfl rfl rfl hl.1 rfl (Nat.le_of_ble_eq_true rfl) ⟨Nat.zero_le _, Nat.zero_le _⟩ dX6_look_44 (fun H locs hP hD hS => ?_)
          refine lv_aload_n hx hb dX6_look_47 rfl (lv_at hl 1 rfl) ?_
          refine qg_X_X6_row hM hP fl_X6_26 dX6_look_48 ?_
          refine lv_iload_n hx hb dX6_look_51 rfl (lv_at hl 2 rfl) ?_
          refine lv_iload_n hx hb dX6_look_52 rfl (lv_at hl 3 rfl) ?_
          obtain ⟨x12, hC13, hF⟩ := q_b1_e hF
          refine q_callv hM (c_X3_setLook l D cI cJ g ad j _ _ _ _ hC13) hP hD hS ky_X3_setLook ml_X6_122 rfl rfl ⟨Nat.le_of_ble_eq_true rfl, Nat.le_of_ble_eq_true rfl⟩ 3 rfl rfl rfl hl.1 rfl (Nat.le_of_ble_eq_true rfl) ⟨Nat.zero_le _, Nat.zero_le _⟩ dX6_look_53 (fun H locs hP hD hS => ?_)
          refine lv_iload_n hx hb dX6_look_56 rfl (lv_at hl 0 rfl) ?_
          exact hRet (v8, x12) _ _ _ _ hF rfl dX6_look_57 hP hD hS
        · have hF := q_it hF c9
          refine lv_bipush (v := -2) hx hb dX6_look_34 (by decide) ?_
          exact hRet ((-2 : Int32), x) _ _ _ _ hF rfl dX6_look_36 hP hD hS
      · have hF := q_it hF c6
        refine lv_iconst (v := -1) hx hb dX6_look_17 (by decide) ?_
        exact hRet ((-1 : Int32), x) _ _ _ _ hF rfl dX6_look_18 hP hD hS
theorem ky_X6_mode : q_Y yX6_mode cX6_mode 3 (some .int) 1 := ⟨cw_X6_mode, im_X6_mode, se_X6_mode, in_X6, by decide +kernel⟩
set_option maxHeartbeats 4000000 in
set_option maxRecDepth 100000 in
theorem c_X6_mode (l : Launch) (D : va_G) (cI cJ : ClassId) (g : Nat → Nat) (ad : Nat → Nat) (j : JS) (x : IS) (a1 : Int32) (res : Int32 × IS) (hF : f_X6_mode x a1 = some res) : q_Mi l yX6_mode cX6_mode 3 .int { frames := 3, cells := 0, slots := 0, locals := 69 } D cI cJ g (q_WX cI cJ ad x j) [.ref (ad 0), .int a1] (res.1) (q_WX cI cJ ad (res.2) j) := by
  refine q_ofi (res := res) (fun u : Int32 × IS => u.1) (fun u : Int32 × IS => (q_WX cI cJ ad (u.2) j)) pl_X6 (Nat.le_of_ble_eq_true rfl) ?_
  intro p e s m args below meth c A Q hM hRet ls hl hP hD hS
  have hx := hM.1.1
  have hb := hM.1.2.1
  have hl : lv_has ls 3 [(0, .ref (ad 0)), (1, .int a1)] := hl
  unfold f_X6_mode at hF
  refine lv_iload_n hx hb dX6_mode_0 rfl (lv_at hl 1 rfl) ?_
  refine lv_if_lt (tgt := 9) hx hb dX6_mode_1 (by decide) (fun c1 => ?_) (fun c1 => ?_)
  · have hF := q_it hF c1
    refine lv_iconst (v := -1) hx hb dX6_mode_9 (by decide) ?_
    exact hRet ((-1 : Int32), x) _ _ _ _ hF rfl dX6_mode_10 hP hD hS
  · have hF := q_ie hF c1
    refine lv_iload_n hx hb dX6_mode_4 rfl (lv_at hl 1 rfl) ?_
    refine lv_iconst (v := 2) hx hb dX6_mode_5 (by decide) ?_
    refine lv_icmp_le (tgt := 11) hx hb dX6_mode_6 (by decide) (fun c2 => ?_) (fun c2 => ?_)
    · have hF := q_it hF c2
      refine lv_aload_n hx hb dX6_mode_11 rfl (lv_at hl 0 rfl) ?_
      refine qg_X_X6_row hM hP fl_X6_26 dX6_mode_12 ?_
      refine qg_X_X3_mode hM hP fl_X6_125 dX6_mode_15 ?_
      refine lv_topi (fun v3 ev3 => ?_)
      have hF := q_let_e hF ev3
      refine lv_istore_n (lv' := [(2, .int v3), (0, .ref (ad 0)), (1, .int a1)]) hx hb dX6_mode_18 rfl hl (by decide) rfl (fun ls hl => ?_)
      refine lv_iload_n hx hb dX6_mode_19 rfl (lv_at hl 0 rfl) ?_
      refine lv_iload_n hx hb dX6_mode_20 rfl (lv_at hl 2 rfl) ?_
      refine lv_icmp_ne (tgt := 27) hx hb dX6_mode_21 (by decide) (fun c4 => ?_) (fun c4 => ?_)
      · have hF := q_ie hF c4
        refine lv_aload_n hx hb dX6_mode_27 rfl (lv_at hl 1 rfl) ?_
        refine qg_X_X6_past hM hP fl_X6_47 dX6_mode_28 ?_
        refine lv_iconst (v := 3) hx hb dX6_mode_31 (by decide) ?_
        refine lv_iconst (v := 0) hx hb dX6_mode_32 (by decide) ?_
        refine lv_iload_n hx hb dX6_mode_33 rfl (lv_at hl 0 rfl) ?_
        obtain ⟨x5, hC6, hF⟩ := q_b1_e hF
        refine q_callv hM (c_X2_keep l D cI cJ g ad j _ _ _ _ _ hC6) hP hD hS ky_X2_keep ml_X6_97 rfl rfl ⟨Nat.le_of_ble_eq_true rfl, Nat.le_of_ble_eq_true rfl⟩ 6 rfl rfl rfl hl.1 rfl (Nat.le_of_ble_eq_true rfl) ⟨Nat.zero_le _, Nat.zero_le _⟩ dX6_mode_34 (fun H locs hP hD hS => ?_)
        refine lv_aload_n hx hb dX6_mode_37 rfl (lv_at hl 1 rfl) ?_
        refine qg_X_X6_row hM hP fl_X6_26 dX6_mode_38 ?_
        refine lv_iload_n hx hb dX6_mode_41 rfl (lv_at hl 2 rfl) ?_
        obtain ⟨x7, hC8, hF⟩ := q_b1_e hF
        refine q_callv hM (c_X3_setMode l D cI cJ g ad j _ _ _ hC8) hP hD hS ky_X3_setMode ml_X6_128 rfl rfl ⟨Nat.le_of_ble_eq_true rfl, Nat.le_of_ble_eq_true rfl⟩ 3 rfl rfl rfl hl.1 rfl (Nat.le_of_ble_eq_true rfl) ⟨Nat.zero_le _, Nat.zero_le _⟩ dX6_mode_42 (fun H locs hP hD hS => ?_)
        refine lv_iload_n hx hb dX6_mode_45 rfl (lv_at hl 0 rfl) ?_
        exact hRet (v3, x7) _ _ _ _ hF rfl dX6_mode_46 hP hD hS
      · have hF := q_it hF c4
        refine lv_bipush (v := -2) hx hb dX6_mode_24 (by decide) ?_
        exact hRet ((-2 : Int32), x) _ _ _ _ hF rfl dX6_mode_26 hP hD hS
    · have hF := q_ie hF c2
      refine lv_iconst (v := -1) hx hb dX6_mode_9 (by decide) ?_
      exact hRet ((-1 : Int32), x) _ _ _ _ hF rfl dX6_mode_10 hP hD hS
theorem ky_X6_slide : q_Y yX6_slide cX6_slide 3 (some .int) 1 := ⟨cw_X6_slide, im_X6_slide, se_X6_slide, in_X6, by decide +kernel⟩
set_option maxHeartbeats 4000000 in
set_option maxRecDepth 100000 in
theorem c_X6_slide (l : Launch) (D : va_G) (cI cJ : ClassId) (g : Nat → Nat) (ad : Nat → Nat) (j : JS) (x : IS) (a1 : Int32) (res : Int32 × IS) (hF : f_X6_slide x a1 = some res) : q_Mi l yX6_slide cX6_slide 3 .int { frames := 3, cells := 0, slots := 0, locals := 69 } D cI cJ g (q_WX cI cJ ad x j) [.ref (ad 0), .int a1] (res.1) (q_WX cI cJ ad (res.2) j) := by
  refine q_ofi (res := res) (fun u : Int32 × IS => u.1) (fun u : Int32 × IS => (q_WX cI cJ ad (u.2) j)) pl_X6 (Nat.le_of_ble_eq_true rfl) ?_
  intro p e s m args below meth c A Q hM hRet ls hl hP hD hS
  have hx := hM.1.1
  have hb := hM.1.2.1
  have hl : lv_has ls 3 [(0, .ref (ad 0)), (1, .int a1)] := hl
  unfold f_X6_slide at hF
  refine lv_iload_n hx hb dX6_slide_0 rfl (lv_at hl 1 rfl) ?_
  obtain ⟨r1, hC2, hF⟩ := q_b1_e hF
  refine q_calliS hM (c_X6_isPower l D cI cJ g (q_WX cI cJ ad x j) _ _ hC2) hP hD hS ky_X6_isPower ml_X6_91 rfl rfl ⟨Nat.le_of_ble_eq_true rfl, Nat.le_of_ble_eq_true rfl⟩ rfl hl.1 rfl (Nat.le_of_ble_eq_true rfl) ⟨Nat.zero_le _, Nat.zero_le _⟩ dX6_slide_1 (fun H locs hz3 hP hD hS => ?_)
  refine lv_if_ne (tgt := 9) hx hb dX6_slide_4 (by decide) (fun c4 => ?_) (fun c4 => ?_)
  · have hF := q_ie hF c4
    refine lv_aload_n hx hb dX6_slide_9 rfl (lv_at hl 0 rfl) ?_
    refine qg_X_X6_row hM hP fl_X6_26 dX6_slide_10 ?_
    refine qg_X_X3_powers hM hP fl_X6_94 dX6_slide_13 ?_
    refine lv_iconst (v := 0) hx hb dX6_slide_16 (by decide) ?_
    refine ql_X_X3_powers hM hP (by decide) dX6_slide_17 ?_
    refine lv_topi (fun v5 ev5 => ?_)
    have hF := q_let_e hF ev5
    refine lv_istore_n (lv' := [(2, .int v5), (0, .ref (ad 0)), (1, .int a1)]) hx hb dX6_slide_18 rfl hl (by decide) rfl (fun ls hl => ?_)
    refine lv_aload_n hx hb dX6_slide_19 rfl (lv_at hl 1 rfl) ?_
    refine qg_X_X6_past hM hP fl_X6_47 dX6_slide_20 ?_
    refine lv_iconst (v := 4) hx hb dX6_slide_23 (by decide) ?_
    refine lv_aload_n hx hb dX6_slide_24 rfl (lv_at hl 1 rfl) ?_
    refine qg_X_X6_row hM hP fl_X6_26 dX6_slide_25 ?_
    refine qg_X_X3_left hM hP fl_X6_105 dX6_slide_28 ?_
    refine lv_iconst (v := 0) hx hb dX6_slide_31 (by decide) ?_
    refine ql_X_X3_left hM hP (by decide) dX6_slide_32 ?_
    refine lv_iload_n hx hb dX6_slide_33 rfl (lv_at hl 0 rfl) ?_
    obtain ⟨x6, hC7, hF⟩ := q_b1_e hF
    refine q_callv hM (c_X2_keep l D cI cJ g ad j _ _ _ _ _ hC7) hP hD hS ky_X2_keep ml_X6_97 rfl rfl ⟨Nat.le_of_ble_eq_true rfl, Nat.le_of_ble_eq_true rfl⟩ 6 rfl rfl rfl hl.1 rfl (Nat.le_of_ble_eq_true rfl) ⟨Nat.zero_le _, Nat.zero_le _⟩ dX6_slide_34 (fun H locs hP hD hS => ?_)
    refine lv_aload_n hx hb dX6_slide_37 rfl (lv_at hl 1 rfl) ?_
    refine qg_X_X6_row hM hP fl_X6_26 dX6_slide_38 ?_
    refine lv_iload_n hx hb dX6_slide_41 rfl (lv_at hl 2 rfl) ?_
    obtain ⟨x8, hC9, hF⟩ := q_b1_e hF
    refine q_callv hM (c_X3_slideOn l D cI cJ g ad j _ _ _ hC9) hP hD hS ky_X3_slideOn ml_X6_131 rfl rfl ⟨Nat.le_of_ble_eq_true rfl, Nat.le_of_ble_eq_true rfl⟩ 3 rfl rfl rfl hl.1 rfl (Nat.le_of_ble_eq_true rfl) ⟨Nat.zero_le _, Nat.zero_le _⟩ dX6_slide_42 (fun H locs hP hD hS => ?_)
    refine lv_iload_n hx hb dX6_slide_45 rfl (lv_at hl 0 rfl) ?_
    exact hRet (v5, x8) _ _ _ _ hF rfl dX6_slide_46 hP hD hS
  · have hF := q_it hF c4
    refine lv_iconst (v := -1) hx hb dX6_slide_7 (by decide) ?_
    exact hRet ((-1 : Int32), x) _ _ _ _ hF rfl dX6_slide_8 hP hD hS
theorem ky_X6_undo : q_Y yX6_undo cX6_undo 1 (some .int) 0 := ⟨cw_X6_undo, im_X6_undo, se_X6_undo, in_X6, by decide +kernel⟩
set_option maxHeartbeats 4000000 in
set_option maxRecDepth 100000 in
theorem c_X6_undo (l : Launch) (D : va_G) (cI cJ : ClassId) (g : Nat → Nat) (ad : Nat → Nat) (j : JS) (x : IS) (res : Int32 × IS) (hF : f_X6_undo x = some res) : q_Mi l yX6_undo cX6_undo 1 .int { frames := 3, cells := 0, slots := 0, locals := 72 } D cI cJ g (q_WX cI cJ ad x j) [.ref (ad 0)] (res.1) (q_WX cI cJ ad (res.2) j) := by
  refine q_ofi (res := res) (fun u : Int32 × IS => u.1) (fun u : Int32 × IS => (q_WX cI cJ ad (u.2) j)) pl_X6 (Nat.le_of_ble_eq_true rfl) ?_
  intro p e s m args below meth c A Q hM hRet ls hl hP hD hS
  have hx := hM.1.1
  have hb := hM.1.2.1
  have hl : lv_has ls 1 [(0, .ref (ad 0))] := hl
  unfold f_X6_undo at hF
  refine lv_aload_n hx hb dX6_undo_0 rfl (lv_at hl 0 rfl) ?_
  refine qg_X_X6_past hM hP fl_X6_47 dX6_undo_1 ?_
  refine qg_X_X2_size hM hP fl_X6_86 dX6_undo_4 ?_
  refine lv_if_gt (tgt := 13) hx hb dX6_undo_7 (by decide) (fun c1 => ?_) (fun c1 => ?_)
  · have hF := q_it hF c1
    refine lv_aload_n hx hb dX6_undo_13 rfl (lv_at hl 0 rfl) ?_
    refine qg_X_X6_past hM hP fl_X6_47 dX6_undo_14 ?_
    refine lv_dup hx hb dX6_undo_17 rfl ?_
    refine qg_X_X2_size hM hP fl_X6_86 dX6_undo_18 ?_
    refine lv_iconst (v := 1) hx hb dX6_undo_21 (by decide) ?_
    refine lv_isub hx hb dX6_undo_22 ?_
    refine qp_X_X2_size hM hP hD hS fl_X6_86 dX6_undo_23 (fun x2 H locs ex2 hP hD hS => ?_)
    have hF := q_let_e hF ex2
    refine lv_aload_n hx hb dX6_undo_26 rfl (lv_at hl 0 rfl) ?_
    refine qg_X_X6_row hM hP fl_X6_26 dX6_undo_27 ?_
    refine lv_aload_n hx hb dX6_undo_30 rfl (lv_at hl 0 rfl) ?_
    refine qg_X_X6_past hM hP fl_X6_47 dX6_undo_31 ?_
    refine qg_X_X2_kinds hM hP fl_X6_134 dX6_undo_34 ?_
    refine lv_aload_n hx hb dX6_undo_37 rfl (lv_at hl 0 rfl) ?_
    refine qg_X_X6_past hM hP fl_X6_47 dX6_undo_38 ?_
    refine qg_X_X2_size hM hP fl_X6_86 dX6_undo_41 ?_
    obtain ⟨h3, hF⟩ := q_gd_e hF
    refine ql_X_X2_kinds hM hP h3 dX6_undo_44 ?_
    refine lv_aload_n hx hb dX6_undo_45 rfl (lv_at hl 0 rfl) ?_
    refine qg_X_X6_past hM hP fl_X6_47 dX6_undo_46 ?_
    refine qg_X_X2_places hM hP fl_X6_137 dX6_undo_49 ?_
    refine lv_aload_n hx hb dX6_undo_52 rfl (lv_at hl 0 rfl) ?_
    refine qg_X_X6_past hM hP fl_X6_47 dX6_undo_53 ?_
    refine qg_X_X2_size hM hP fl_X6_86 dX6_undo_56 ?_
    obtain ⟨h4, hF⟩ := q_gd_e hF
    refine ql_X_X2_places hM hP h4 dX6_undo_59 ?_
    refine lv_aload_n hx hb dX6_undo_60 rfl (lv_at hl 0 rfl) ?_
    refine qg_X_X6_past hM hP fl_X6_47 dX6_undo_61 ?_
    refine qg_X_X2_values hM hP fl_X6_140 dX6_undo_64 ?_
    refine lv_aload_n hx hb dX6_undo_67 rfl (lv_at hl 0 rfl) ?_
    refine qg_X_X6_past hM hP fl_X6_47 dX6_undo_68 ?_
    refine qg_X_X2_size hM hP fl_X6_86 dX6_undo_71 ?_
    obtain ⟨h5, hF⟩ := q_gd_e hF
    refine ql_X_X2_values hM hP h5 dX6_undo_74 ?_
    obtain ⟨x6, hC7, hF⟩ := q_b1_e hF
    refine q_callv hM (c_X3_takeBack l D cI cJ g ad j _ _ _ _ _ hC7) hP hD hS ky_X3_takeBack ml_X6_143 rfl rfl ⟨Nat.le_of_ble_eq_true rfl, Nat.le_of_ble_eq_true rfl⟩ 3 rfl rfl rfl hl.1 rfl (Nat.le_of_ble_eq_true rfl) ⟨Nat.zero_le _, Nat.zero_le _⟩ dX6_undo_75 (fun H locs hP hD hS => ?_)
    refine lv_aload_n hx hb dX6_undo_78 rfl (lv_at hl 0 rfl) ?_
    refine qg_X_X6_past hM hP fl_X6_47 dX6_undo_79 ?_
    refine qg_X_X2_size hM hP fl_X6_86 dX6_undo_82 ?_
    exact hRet ((x6 28 0), x6) _ _ _ _ hF rfl dX6_undo_85 hP hD hS
  · have hF := q_ie hF c1
    refine lv_bipush (v := -2) hx hb dX6_undo_10 (by decide) ?_
    exact hRet ((-2 : Int32), x) _ _ _ _ hF rfl dX6_undo_12 hP hD hS
theorem ky_X6_cell : q_Y yX6_cell cX6_cell 3 (some .int) 2 := ⟨cw_X6_cell, im_X6_cell, se_X6_cell, in_X6, by decide +kernel⟩
set_option maxHeartbeats 4000000 in
set_option maxRecDepth 100000 in
theorem c_X6_cell (l : Launch) (D : va_G) (cI cJ : ClassId) (g : Nat → Nat) (ad : Nat → Nat) (j : JS) (x : IS) (a1 : Int32) (a2 : Int32) (res : Int32 × IS) (hF : f_X6_cell x a1 a2 = some res) : q_Mi l yX6_cell cX6_cell 3 .int { frames := 6, cells := 0, slots := 0, locals := 141 } D cI cJ g (q_WX cI cJ ad x j) [.ref (ad 0), .int a1, .int a2] (res.1) (q_WX cI cJ ad (res.2) j) := by
  refine q_ofi (res := res) (fun u : Int32 × IS => u.1) (fun u : Int32 × IS => (q_WX cI cJ ad (u.2) j)) pl_X6 (Nat.le_of_ble_eq_true rfl) ?_
  intro p e s m args below meth c A Q hM hRet ls hl hP hD hS
  have hx := hM.1.1
  have hb := hM.1.2.1
  have hl : lv_has ls 3 [(0, .ref (ad 0)), (1, .int a1), (2, .int a2)] := hl
  unfold f_X6_cell at hF
  refine lv_aload_n hx hb dX6_cell_0 rfl (lv_at hl 0 rfl) ?_
  refine qg_X_X6_row hM hP fl_X6_26 dX6_cell_1 ?_
  refine lv_iload_n hx hb dX6_cell_4 rfl (lv_at hl 1 rfl) ?_
  obtain ⟨r1, hC2, hF⟩ := q_b1_e hF
  refine q_calli hM (c_X3_has l D cI cJ g ad j _ _ _ hC2) hP hD hS ky_X3_has ml_X6_87 rfl rfl ⟨Nat.le_of_ble_eq_true rfl, Nat.le_of_ble_eq_true rfl⟩ 3 rfl rfl rfl hl.1 rfl (Nat.le_of_ble_eq_true rfl) ⟨Nat.zero_le _, Nat.zero_le _⟩ dX6_cell_5 (fun H locs hz3 hP hD hS => ?_)
  refine lv_if_ne (tgt := 13) hx hb dX6_cell_8 (by decide) (fun c4 => ?_) (fun c4 => ?_)
  · have hF := q_ie hF c4
    refine lv_iload_n hx hb dX6_cell_13 rfl (lv_at hl 2 rfl) ?_
    by_cases c5 : a2 = 0
    · have hF := q_it hF c5
      refine lv_tableIn (off := 42) (tgt := 56) hx hb dX6_cell_14 (by rw [c5]; decide) (by rw [c5]; decide) (by rw [c5]; rfl) (by decide) ?_
      refine lv_aload_n hx hb dX6_cell_56 rfl (lv_at hl 0 rfl) ?_
      refine qg_X_X6_row hM hP fl_X6_26 dX6_cell_57 ?_
      refine qg_X_X3_powers hM hP fl_X6_94 dX6_cell_60 ?_
      refine lv_iload_n hx hb dX6_cell_63 rfl (lv_at hl 1 rfl) ?_
      obtain ⟨h33, hF⟩ := q_gd_e hF
      refine ql_X_X3_powers hM hP h33 dX6_cell_64 ?_
      exact hRet ((x 8 a1.toNatClampNeg), x) _ _ _ _ hF rfl dX6_cell_65 hP hD hS
    · have hF := q_ie hF c5
      by_cases c6 : a2 = 1
      · have hF := q_it hF c6
        refine lv_tableIn (off := 52) (tgt := 66) hx hb dX6_cell_14 (by rw [c6]; decide) (by rw [c6]; decide) (by rw [c6]; rfl) (by decide) ?_
        refine lv_aload_n hx hb dX6_cell_66 rfl (lv_at hl 0 rfl) ?_
        refine qg_X_X6_row hM hP fl_X6_26 dX6_cell_67 ?_
        refine qg_X_X3_left hM hP fl_X6_105 dX6_cell_70 ?_
        refine lv_iload_n hx hb dX6_cell_73 rfl (lv_at hl 1 rfl) ?_
        obtain ⟨h32, hF⟩ := q_gd_e hF
        refine ql_X_X3_left hM hP h32 dX6_cell_74 ?_
        exact hRet ((x 9 a1.toNatClampNeg), x) _ _ _ _ hF rfl dX6_cell_75 hP hD hS
      · have hF := q_ie hF c6
        by_cases c7 : a2 = 2
        · have hF := q_it hF c7
          refine lv_tableIn (off := 62) (tgt := 76) hx hb dX6_cell_14 (by rw [c7]; decide) (by rw [c7]; decide) (by rw [c7]; rfl) (by decide) ?_
          refine lv_aload_n hx hb dX6_cell_76 rfl (lv_at hl 0 rfl) ?_
          refine qg_X_X6_row hM hP fl_X6_26 dX6_cell_77 ?_
          refine lv_iload_n hx hb dX6_cell_80 rfl (lv_at hl 1 rfl) ?_
          refine lv_iconst (v := 0) hx hb dX6_cell_81 (by decide) ?_
          refine lv_bipush (v := -4) hx hb dX6_cell_82 (by decide) ?_
          obtain ⟨r28, x29, hC30, hF⟩ := q_b2_e hF
          refine q_calli hM (c_X3_gather l D cI cJ g ad j _ _ _ _ _ hC30) hP hD hS ky_X3_gather ml_X6_146 rfl rfl ⟨Nat.le_of_ble_eq_true rfl, Nat.le_of_ble_eq_true rfl⟩ 3 rfl rfl rfl hl.1 rfl (Nat.le_of_ble_eq_true rfl) ⟨Nat.zero_le _, Nat.zero_le _⟩ dX6_cell_84 (fun H locs hz31 hP hD hS => ?_)
          exact hRet (r28, x29) _ _ _ _ hF rfl dX6_cell_87 hP hD hS
        · have hF := q_ie hF c7
          by_cases c8 : a2 = 3
          · have hF := q_it hF c8
            refine lv_tableIn (off := 74) (tgt := 88) hx hb dX6_cell_14 (by rw [c8]; decide) (by rw [c8]; decide) (by rw [c8]; rfl) (by decide) ?_
            refine lv_aload_n hx hb dX6_cell_88 rfl (lv_at hl 0 rfl) ?_
            refine qg_X_X6_row hM hP fl_X6_26 dX6_cell_89 ?_
            refine lv_iload_n hx hb dX6_cell_92 rfl (lv_at hl 1 rfl) ?_
            refine lv_iconst (v := 1) hx hb dX6_cell_93 (by decide) ?_
            refine lv_bipush (v := -4) hx hb dX6_cell_94 (by decide) ?_
            obtain ⟨r24, x25, hC26, hF⟩ := q_b2_e hF
            refine q_calli hM (c_X3_gather l D cI cJ g ad j _ _ _ _ _ hC26) hP hD hS ky_X3_gather ml_X6_146 rfl rfl ⟨Nat.le_of_ble_eq_true rfl, Nat.le_of_ble_eq_true rfl⟩ 3 rfl rfl rfl hl.1 rfl (Nat.le_of_ble_eq_true rfl) ⟨Nat.zero_le _, Nat.zero_le _⟩ dX6_cell_96 (fun H locs hz27 hP hD hS => ?_)
            exact hRet (r24, x25) _ _ _ _ hF rfl dX6_cell_99 hP hD hS
          · have hF := q_ie hF c8
            by_cases c9 : a2 = 4
            · have hF := q_it hF c9
              refine lv_tableIn (off := 86) (tgt := 100) hx hb dX6_cell_14 (by rw [c9]; decide) (by rw [c9]; decide) (by rw [c9]; rfl) (by decide) ?_
              refine lv_aload_n hx hb dX6_cell_100 rfl (lv_at hl 0 rfl) ?_
              refine qg_X_X6_row hM hP fl_X6_26 dX6_cell_101 ?_
              refine lv_iload_n hx hb dX6_cell_104 rfl (lv_at hl 1 rfl) ?_
              refine lv_bipush (v := -4) hx hb dX6_cell_105 (by decide) ?_
              obtain ⟨r20, x21, hC22, hF⟩ := q_b2_e hF
              refine q_calli hM (c_X3_floorOf l D cI cJ g ad j _ _ _ _ hC22) hP hD hS ky_X3_floorOf ml_X6_150 rfl rfl ⟨Nat.le_of_ble_eq_true rfl, Nat.le_of_ble_eq_true rfl⟩ 3 rfl rfl rfl hl.1 rfl (Nat.le_of_ble_eq_true rfl) ⟨Nat.zero_le _, Nat.zero_le _⟩ dX6_cell_107 (fun H locs hz23 hP hD hS => ?_)
              exact hRet (r20, x21) _ _ _ _ hF rfl dX6_cell_110 hP hD hS
            · have hF := q_ie hF c9
              by_cases c10 : a2 = 5
              · have hF := q_it hF c10
                refine lv_tableIn (off := 97) (tgt := 111) hx hb dX6_cell_14 (by rw [c10]; decide) (by rw [c10]; decide) (by rw [c10]; rfl) (by decide) ?_
                refine lv_aload_n hx hb dX6_cell_111 rfl (lv_at hl 0 rfl) ?_
                refine qg_X_X6_row hM hP fl_X6_26 dX6_cell_112 ?_
                refine lv_iload_n hx hb dX6_cell_115 rfl (lv_at hl 1 rfl) ?_
                refine lv_bipush (v := -4) hx hb dX6_cell_116 (by decide) ?_
                obtain ⟨r15, x16, hC17, hF⟩ := q_b2_e hF
                refine q_calli hM (c_X3_alarmsWithout l D cI cJ g ad j _ _ _ _ hC17) hP hD hS ky_X3_alarmsWithout ml_X6_154 rfl rfl ⟨Nat.le_of_ble_eq_true rfl, Nat.le_of_ble_eq_true rfl⟩ 3 rfl rfl rfl hl.1 rfl (Nat.le_of_ble_eq_true rfl) ⟨Nat.zero_le _, Nat.zero_le _⟩ dX6_cell_118 (fun H locs hz18 hP hD hS => ?_)
                refine lv_if_eq (tgt := 128) hx hb dX6_cell_121 (by decide) (fun c19 => ?_) (fun c19 => ?_)
                · have hF := q_it hF c19
                  refine lv_iconst (v := 0) hx hb dX6_cell_128 (by decide) ?_
                  exact hRet ((0 : Int32), x16) _ _ _ _ hF rfl dX6_cell_129 hP hD hS
                · have hF := q_ie hF c19
                  refine lv_iconst (v := 1) hx hb dX6_cell_124 (by decide) ?_
                  refine lv_goto (tgt := 129) hx hb dX6_cell_125 (by decide) ?_
                  exact hRet ((1 : Int32), x16) _ _ _ _ hF rfl dX6_cell_129 hP hD hS
              · have hF := q_ie hF c10
                by_cases c11 : a2 = 6
                · have hF := q_it hF c11
                  refine lv_tableIn (off := 116) (tgt := 130) hx hb dX6_cell_14 (by rw [c11]; decide) (by rw [c11]; decide) (by rw [c11]; rfl) (by decide) ?_
                  refine lv_aload_n hx hb dX6_cell_130 rfl (lv_at hl 0 rfl) ?_
                  refine qg_X_X6_alarms hM hP fl_X6_33 dX6_cell_131 ?_
                  refine lv_aload_n hx hb dX6_cell_134 rfl (lv_at hl 0 rfl) ?_
                  refine qg_X_X6_row hM hP fl_X6_26 dX6_cell_135 ?_
                  obtain ⟨x12, hC13, hF⟩ := q_b1_e hF
                  refine q_callv hM (c_X0_settle l D cI cJ g ad j _ _ hC13) hP hD hS ky_X0_settle ml_X6_157 rfl rfl ⟨Nat.le_of_ble_eq_true rfl, Nat.le_of_ble_eq_true rfl⟩ 4 rfl rfl rfl hl.1 rfl (Nat.le_of_ble_eq_true rfl) ⟨Nat.zero_le _, Nat.zero_le _⟩ dX6_cell_138 (fun H locs hP hD hS => ?_)
                  refine lv_aload_n hx hb dX6_cell_141 rfl (lv_at hl 0 rfl) ?_
                  refine qg_X_X6_alarms hM hP fl_X6_33 dX6_cell_142 ?_
                  refine qg_X_X0_bunchOf hM hP fl_X6_161 dX6_cell_145 ?_
                  refine lv_iload_n hx hb dX6_cell_148 rfl (lv_at hl 1 rfl) ?_
                  obtain ⟨h14, hF⟩ := q_gd_e hF
                  refine ql_X_X0_bunchOf hM hP h14 dX6_cell_149 ?_
                  exact hRet ((x12 17 a1.toNatClampNeg), x12) _ _ _ _ hF rfl dX6_cell_150 hP hD hS
                · have hF := q_ie hF c11
                  refine lv_tableOut (tgt := 151) hx hb dX6_cell_14 (by have z0 := q_ne c5; have z1 := q_ne c6; have z2 := q_ne c7; have z3 := q_ne c8; have z4 := q_ne c9; have z5 := q_ne c10; have z6 := q_ne c11; have y0 : (a2).toInt < 0 ∨ 6 < (a2).toInt := (by rw [show (0 : Int32).toInt = 0 from rfl] at z0; rw [show (1 : Int32).toInt = 1 from rfl] at z1; rw [show (2 : Int32).toInt = 2 from rfl] at z2; rw [show (3 : Int32).toInt = 3 from rfl] at z3; rw [show (4 : Int32).toInt = 4 from rfl] at z4; rw [show (5 : Int32).toInt = 5 from rfl] at z5; rw [show (6 : Int32).toInt = 6 from rfl] at z6; omega); exact y0) (by decide) ?_
                  refine lv_iconst (v := -1) hx hb dX6_cell_151 (by decide) ?_
                  exact hRet ((-1 : Int32), x) _ _ _ _ hF rfl dX6_cell_152 hP hD hS
  · have hF := q_it hF c4
    refine lv_iconst (v := -1) hx hb dX6_cell_11 (by decide) ?_
    exact hRet ((-1 : Int32), x) _ _ _ _ hF rfl dX6_cell_12 hP hD hS
theorem ky_X6_ranked : q_Y yX6_ranked cX6_ranked 5 (some .int) 3 := ⟨cw_X6_ranked, im_X6_ranked, se_X6_ranked, in_X6, by decide +kernel⟩
set_option maxHeartbeats 4000000 in
set_option maxRecDepth 100000 in
theorem c_X6_ranked (l : Launch) (D : va_G) (cI cJ : ClassId) (g : Nat → Nat) (ad : Nat → Nat) (j : JS) (x : IS) (a1 : Int32) (a2 : Int32) (a3 : Int32) (res : Int32 × IS) (hF : f_X6_ranked x a1 a2 a3 = some res) : q_Mi l yX6_ranked cX6_ranked 5 .int { frames := 3, cells := 0, slots := 0, locals := 71 } D cI cJ g (q_WX cI cJ ad x j) [.ref (ad 0), .int a1, .int a2, .int a3] (res.1) (q_WX cI cJ ad (res.2) j) := by
  refine q_ofi (res := res) (fun u : Int32 × IS => u.1) (fun u : Int32 × IS => (q_WX cI cJ ad (u.2) j)) pl_X6 (Nat.le_of_ble_eq_true rfl) ?_
  intro p e s m args below meth c A Q hM hRet ls hl hP hD hS
  have hx := hM.1.1
  have hb := hM.1.2.1
  have hl : lv_has ls 5 [(0, .ref (ad 0)), (1, .int a1), (2, .int a2), (3, .int a3)] := hl
  unfold f_X6_ranked at hF
  refine lv_aload_n hx hb dX6_ranked_0 rfl (lv_at hl 0 rfl) ?_
  refine qg_X_X6_row hM hP fl_X6_26 dX6_ranked_1 ?_
  refine lv_iload_n hx hb dX6_ranked_4 rfl (lv_at hl 1 rfl) ?_
  obtain ⟨r1, hC2, hF⟩ := q_b1_e hF
  refine q_calli hM (c_X3_has l D cI cJ g ad j _ _ _ hC2) hP hD hS ky_X3_has ml_X6_87 rfl rfl ⟨Nat.le_of_ble_eq_true rfl, Nat.le_of_ble_eq_true rfl⟩ 3 rfl rfl rfl hl.1 rfl (Nat.le_of_ble_eq_true rfl) ⟨Nat.zero_le _, Nat.zero_le _⟩ dX6_ranked_5 (fun H locs hz3 hP hD hS => ?_)
  refine lv_if_eq (tgt := 25) hx hb dX6_ranked_8 (by decide) (fun c4 => ?_) (fun c4 => ?_)
  · have hF := q_it hF c4
    refine lv_iconst (v := -1) hx hb dX6_ranked_25 (by decide) ?_
    exact hRet ((-1 : Int32), x) _ _ _ _ hF rfl dX6_ranked_26 hP hD hS
  · have hF := q_ie hF c4
    refine lv_iload_n hx hb dX6_ranked_11 rfl (lv_at hl 2 rfl) ?_
    refine lv_if_lt (tgt := 25) hx hb dX6_ranked_12 (by decide) (fun c5 => ?_) (fun c5 => ?_)
    · have hF := q_it hF c5
      refine lv_iconst (v := -1) hx hb dX6_ranked_25 (by decide) ?_
      exact hRet ((-1 : Int32), x) _ _ _ _ hF rfl dX6_ranked_26 hP hD hS
    · have hF := q_ie hF c5
      refine lv_iload_n hx hb dX6_ranked_15 rfl (lv_at hl 2 rfl) ?_
      refine lv_iconst (v := 2) hx hb dX6_ranked_16 (by decide) ?_
      refine lv_icmp_gt (tgt := 25) hx hb dX6_ranked_17 (by decide) (fun c6 => ?_) (fun c6 => ?_)
      · have hF := q_it hF c6
        refine lv_iconst (v := -1) hx hb dX6_ranked_25 (by decide) ?_
        exact hRet ((-1 : Int32), x) _ _ _ _ hF rfl dX6_ranked_26 hP hD hS
      · have hF := q_ie hF c6
        refine lv_iload_n hx hb dX6_ranked_20 rfl (lv_at hl 3 rfl) ?_
        refine lv_iconst (v := 1) hx hb dX6_ranked_21 (by decide) ?_
        refine lv_icmp_ge (tgt := 27) hx hb dX6_ranked_22 (by decide) (fun c7 => ?_) (fun c7 => ?_)
        · have hF := q_it hF c7
          refine lv_aload_n hx hb dX6_ranked_27 rfl (lv_at hl 0 rfl) ?_
          refine qg_X_X6_row hM hP fl_X6_26 dX6_ranked_28 ?_
          refine lv_iload_n hx hb dX6_ranked_31 rfl (lv_at hl 1 rfl) ?_
          refine lv_iload_n hx hb dX6_ranked_32 rfl (lv_at hl 2 rfl) ?_
          refine lv_bipush (v := -4) hx hb dX6_ranked_33 (by decide) ?_
          obtain ⟨r8, x9, hC10, hF⟩ := q_b2_e hF
          refine q_calli hM (c_X3_gather l D cI cJ g ad j _ _ _ _ _ hC10) hP hD hS ky_X3_gather ml_X6_146 rfl rfl ⟨Nat.le_of_ble_eq_true rfl, Nat.le_of_ble_eq_true rfl⟩ 3 rfl rfl rfl hl.1 rfl (Nat.le_of_ble_eq_true rfl) ⟨Nat.zero_le _, Nat.zero_le _⟩ dX6_ranked_35 (fun H locs hz11 hP hD hS => ?_)
          refine lv_istore (lv' := [(4, .int r8), (0, .ref (ad 0)), (1, .int a1), (2, .int a2), (3, .int a3)]) hx hb dX6_ranked_38 hl (by decide) rfl (fun ls hl => ?_)
          refine lv_iload_n hx hb dX6_ranked_40 rfl (lv_at hl 4 rfl) ?_
          refine lv_iload hx hb dX6_ranked_41 (lv_at hl 0 rfl) ?_
          refine lv_icmp_gt (tgt := 52) hx hb dX6_ranked_43 (by decide) (fun c12 => ?_) (fun c12 => ?_)
          · have hF := q_it hF c12
            refine lv_bipush (v := -4) hx hb dX6_ranked_52 (by decide) ?_
            refine lv_goto (tgt := 68) hx hb dX6_ranked_54 (by decide) ?_
            exact hRet ((-4 : Int32), x9) _ _ _ _ hF rfl dX6_ranked_68 hP hD hS
          · have hF := q_ie hF c12
            refine lv_iload_n hx hb dX6_ranked_46 rfl (lv_at hl 4 rfl) ?_
            refine lv_bipush (v := 12) hx hb dX6_ranked_47 (by decide) ?_
            refine lv_icmp_le (tgt := 57) hx hb dX6_ranked_49 (by decide) (fun c13 => ?_) (fun c13 => ?_)
            · have hF := q_it hF c13
              refine lv_aload_n hx hb dX6_ranked_57 rfl (lv_at hl 1 rfl) ?_
              refine qg_X_X6_row hM hP fl_X6_26 dX6_ranked_58 ?_
              refine qg_X_X3_window hM hP fl_X6_164 dX6_ranked_61 ?_
              refine lv_iload_n hx hb dX6_ranked_64 rfl (lv_at hl 4 rfl) ?_
              refine lv_iconst (v := 1) hx hb dX6_ranked_65 (by decide) ?_
              refine lv_isub hx hb dX6_ranked_66 ?_
              obtain ⟨h14, hF⟩ := q_gd_e hF
              refine ql_X_X3_window hM hP h14 dX6_ranked_67 ?_
              exact hRet ((x9 11 (a3 - (1 : Int32)).toNatClampNeg), x9) _ _ _ _ hF rfl dX6_ranked_68 hP hD hS
            · have hF := q_ie hF c13
              refine lv_bipush (v := -4) hx hb dX6_ranked_52 (by decide) ?_
              refine lv_goto (tgt := 68) hx hb dX6_ranked_54 (by decide) ?_
              exact hRet ((-4 : Int32), x9) _ _ _ _ hF rfl dX6_ranked_68 hP hD hS
        · have hF := q_ie hF c7
          refine lv_iconst (v := -1) hx hb dX6_ranked_25 (by decide) ?_
          exact hRet ((-1 : Int32), x) _ _ _ _ hF rfl dX6_ranked_26 hP hD hS
theorem ky_X6_hides : q_Y yX6_hides cX6_hides 6 (some .int) 2 := ⟨cw_X6_hides, im_X6_hides, se_X6_hides, in_X6, by decide +kernel⟩
set_option maxHeartbeats 4000000 in
set_option maxRecDepth 100000 in
theorem c_X6_hides (l : Launch) (D : va_G) (cI cJ : ClassId) (g : Nat → Nat) (ad : Nat → Nat) (j : JS) (x : IS) (a1 : Int32) (a2 : Int32) (res : Int32 × IS) (hF : f_X6_hides x a1 a2 = some res) : q_Mi l yX6_hides cX6_hides 6 .int { frames := 6, cells := 0, slots := 0, locals := 141 } D cI cJ g (q_WX cI cJ ad x j) [.ref (ad 0), .int a1, .int a2] (res.1) (q_WX cI cJ ad (res.2) j) := by
  refine q_ofi (res := res) (fun u : Int32 × IS => u.1) (fun u : Int32 × IS => (q_WX cI cJ ad (u.2) j)) pl_X6 (Nat.le_of_ble_eq_true rfl) ?_
  intro p e s m args below meth c A Q hM hRet ls hl hP hD hS
  have hx := hM.1.1
  have hb := hM.1.2.1
  have hl : lv_has ls 6 [(0, .ref (ad 0)), (1, .int a1), (2, .int a2)] := hl
  unfold f_X6_hides at hF
  refine lv_aload_n hx hb dX6_hides_0 rfl (lv_at hl 0 rfl) ?_
  refine qg_X_X6_row hM hP fl_X6_26 dX6_hides_1 ?_
  refine lv_iload_n hx hb dX6_hides_4 rfl (lv_at hl 1 rfl) ?_
  obtain ⟨r1, hC2, hF⟩ := q_b1_e hF
  refine q_calli hM (c_X3_has l D cI cJ g ad j _ _ _ hC2) hP hD hS ky_X3_has ml_X6_87 rfl rfl ⟨Nat.le_of_ble_eq_true rfl, Nat.le_of_ble_eq_true rfl⟩ 3 rfl rfl rfl hl.1 rfl (Nat.le_of_ble_eq_true rfl) ⟨Nat.zero_le _, Nat.zero_le _⟩ dX6_hides_5 (fun H locs hz3 hP hD hS => ?_)
  refine lv_if_eq (tgt := 32) hx hb dX6_hides_8 (by decide) (fun c4 => ?_) (fun c4 => ?_)
  · have hF := q_it hF c4
    refine lv_iconst (v := -1) hx hb dX6_hides_32 (by decide) ?_
    exact hRet ((-1 : Int32), x) _ _ _ _ hF rfl dX6_hides_33 hP hD hS
  · have hF := q_ie hF c4
    refine lv_iload_n hx hb dX6_hides_11 rfl (lv_at hl 1 rfl) ?_
    refine lv_iload_n hx hb dX6_hides_12 rfl (lv_at hl 2 rfl) ?_
    refine lv_icmp_eq (tgt := 32) hx hb dX6_hides_13 (by decide) (fun c5 => ?_) (fun c5 => ?_)
    · have hF := q_it hF c5
      refine lv_iconst (v := -1) hx hb dX6_hides_32 (by decide) ?_
      exact hRet ((-1 : Int32), x) _ _ _ _ hF rfl dX6_hides_33 hP hD hS
    · have hF := q_ie hF c5
      refine lv_iload_n hx hb dX6_hides_16 rfl (lv_at hl 2 rfl) ?_
      refine lv_iconst (v := -1) hx hb dX6_hides_17 (by decide) ?_
      obtain ⟨J34, hJ34, hF⟩ := q_jn_e hF
      have K34 : ∀ (H : Heap) (locs : List Loc) (ls : Array Slot), lv_has ls 6 [(0, .ref (ad 0)), (1, .int a1), (2, .int a2)] → va_P D vwCl (q_WX cI cJ ad x j) H → va_D A (q_WX cI cJ ad x j) → va_S A s.heap H locs → J34 = some res → W p l e { frames := 6, cells := 0, slots := 0, locals := 141 } s m args below meth c H locs 0 0 Q (F0 m 34 ls []) := by
        clear hF; intro H locs ls hl hP hD hS hF
        rw [hJ34] at hF
        refine lv_aload_n hx hb dX6_hides_34 rfl (lv_at hl 0 rfl) ?_
        refine qg_X_X6_row hM hP fl_X6_26 dX6_hides_35 ?_
        refine qg_X_X3_left hM hP fl_X6_105 dX6_hides_38 ?_
        refine lv_iload_n hx hb dX6_hides_41 rfl (lv_at hl 1 rfl) ?_
        obtain ⟨h11, hF⟩ := q_gd_e hF
        refine ql_X_X3_left hM hP h11 dX6_hides_42 ?_
        refine lv_iconst (v := 1) hx hb dX6_hides_43 (by decide) ?_
        refine lv_icmp_eq (tgt := 65) hx hb dX6_hides_44 (by decide) (fun c12 => ?_) (fun c12 => ?_)
        · have hF := q_it hF c12
          refine lv_bipush (v := -2) hx hb dX6_hides_65 (by decide) ?_
          exact hRet ((-2 : Int32), x) _ _ _ _ hF rfl dX6_hides_67 hP hD hS
        · have hF := q_ie hF c12
          refine lv_iload_n hx hb dX6_hides_47 rfl (lv_at hl 2 rfl) ?_
          refine lv_iconst (v := -1) hx hb dX6_hides_48 (by decide) ?_
          obtain ⟨J68, hJ68, hF⟩ := q_jn_e hF
          have K68 : ∀ (H : Heap) (locs : List Loc) (ls : Array Slot), lv_has ls 6 [(0, .ref (ad 0)), (1, .int a1), (2, .int a2)] → va_P D vwCl (q_WX cI cJ ad x j) H → va_D A (q_WX cI cJ ad x j) → va_S A s.heap H locs → J68 = some res → W p l e { frames := 6, cells := 0, slots := 0, locals := 141 } s m args below meth c H locs 0 0 Q (F0 m 68 ls []) := by
            clear hF; intro H locs ls hl hP hD hS hF
            rw [hJ68] at hF
            refine lv_aload_n hx hb dX6_hides_68 rfl (lv_at hl 0 rfl) ?_
            refine qg_X_X6_alarms hM hP fl_X6_33 dX6_hides_69 ?_
            refine lv_aload_n hx hb dX6_hides_72 rfl (lv_at hl 0 rfl) ?_
            refine qg_X_X6_row hM hP fl_X6_26 dX6_hides_73 ?_
            obtain ⟨x16, hC17, hF⟩ := q_b1_e hF
            refine q_callv hM (c_X0_settle l D cI cJ g ad j _ _ hC17) hP hD hS ky_X0_settle ml_X6_157 rfl rfl ⟨Nat.le_of_ble_eq_true rfl, Nat.le_of_ble_eq_true rfl⟩ 4 rfl rfl rfl hl.1 rfl (Nat.le_of_ble_eq_true rfl) ⟨Nat.zero_le _, Nat.zero_le _⟩ dX6_hides_76 (fun H locs hP hD hS => ?_)
            refine lv_iconst (v := 0) hx hb dX6_hides_79 (by decide) ?_
            refine lv_istore_n (lv' := [(3, .int (0 : Int32)), (0, .ref (ad 0)), (1, .int a1), (2, .int a2)]) hx hb dX6_hides_80 rfl hl (by decide) rfl (fun ls hl => ?_)
            refine lv_iconst (v := 0) hx hb dX6_hides_81 (by decide) ?_
            refine lv_istore (lv' := [(4, .int (0 : Int32)), (3, .int (0 : Int32)), (0, .ref (ad 0)), (1, .int a1), (2, .int a2)]) hx hb dX6_hides_82 hl (by decide) rfl (fun ls hl => ?_)
            have L84 : ∀ (k : Int32 → IS → Option (Int32 × IS)) (n : Nat) (v18 : Int32) (v19 : Int32) (x21 : IS) (H : Heap) (locs : List Loc) (ls : Array Slot), lv_has ls 6 [(0, .ref (ad 0)), (1, .int a1), (2, .int a2), (3, .int v18), (4, .int v19)] → va_P D vwCl (q_WX cI cJ ad x21 j) H → va_D A (q_WX cI cJ ad x21 j) → va_S A s.heap H locs → (∀ (e20 : Int32) (x22 : IS) (H : Heap) (locs : List Loc) (ls : Array Slot), lv_has ls 6 [(3, .int e20)] → va_P D vwCl (q_WX cI cJ ad x22 j) H → va_D A (q_WX cI cJ ad x22 j) → va_S A s.heap H locs → k e20 x22 = some res → W p l e { frames := 6, cells := 0, slots := 0, locals := 141 } s m args below meth c H locs 0 0 Q (F0 m 169 ls [])) → f_X6_hides_L84 a1 a2 k n v18 v19 x21 = some res → W p l e { frames := 6, cells := 0, slots := 0, locals := 141 } s m args below meth c H locs 0 0 Q (F0 m 84 ls []) := by
              intro k n
              induction n with
              | zero => intro v18 v19 x21 H locs ls hl hP hD hS hk hF; exact q_no hF
              | succ n ih =>
                intro v18 v19 x21 H locs ls hl hP hD hS hk hF
                have hF : f_X6_hides_L84F a1 a2 k (f_X6_hides_L84 a1 a2 k n) v18 v19 x21 = some res := hF
                unfold f_X6_hides_L84F at hF
                refine lv_iload hx hb dX6_hides_84 (lv_at hl 4 rfl) ?_
                refine lv_aload_n hx hb dX6_hides_86 rfl (lv_at hl 0 rfl) ?_
                refine qg_X_X6_row hM hP fl_X6_26 dX6_hides_87 ?_
                refine qg_X_X3_size hM hP fl_X6_80 dX6_hides_90 ?_
                refine lv_icmp_ge (tgt := 169) hx hb dX6_hides_93 (by decide) (fun c23 => ?_) (fun c23 => ?_)
                · have hF := q_it hF c23
                  exact hk _ _ _ _ _ (lv_sub hl [3] rfl) hP hD hS hF
                · have hF := q_ie hF c23
                  refine lv_iload hx hb dX6_hides_96 (lv_at hl 4 rfl) ?_
                  refine lv_bipush (v := 48) hx hb dX6_hides_98 (by decide) ?_
                  refine lv_icmp_ge (tgt := 169) hx hb dX6_hides_100 (by decide) (fun c24 => ?_) (fun c24 => ?_)
                  · have hF := q_it hF c24
                    exact hk _ _ _ _ _ (lv_sub hl [3] rfl) hP hD hS hF
                  · have hF := q_ie hF c24
                    refine lv_iload hx hb dX6_hides_103 (lv_at hl 4 rfl) ?_
                    refine lv_iload_n hx hb dX6_hides_105 rfl (lv_at hl 1 rfl) ?_
                    obtain ⟨J125, hJ125, hF⟩ := q_jn_e hF
                    have K125 : ∀ (t28 : Int32) (H : Heap) (locs : List Loc) (ls : Array Slot), lv_has ls 6 [(0, .ref (ad 0)), (1, .int a1), (2, .int a2), (3, .int v18), (4, .int v19)] → va_P D vwCl (q_WX cI cJ ad x21 j) H → va_D A (q_WX cI cJ ad x21 j) → va_S A s.heap H locs → J125 t28 = some res → W p l e { frames := 6, cells := 0, slots := 0, locals := 141 } s m args below meth c H locs 0 0 Q (F0 m 125 ls [.int t28]) := by
                      clear hF; intro t28 H locs ls hl hP hD hS hF
                      rw [hJ125] at hF
                      try dsimp only at hF
                      refine lv_istore (lv' := [(5, .int t28), (0, .ref (ad 0)), (1, .int a1), (2, .int a2), (3, .int v18), (4, .int v19)]) hx hb dX6_hides_125 hl (by decide) rfl (fun ls hl => ?_)
                      refine lv_iload hx hb dX6_hides_127 (lv_at hl 0 rfl) ?_
                      obtain ⟨J163, hJ163, hF⟩ := q_jn_e hF
                      have K163 : ∀ (v38 : Int32) (x39 : IS) (H : Heap) (locs : List Loc) (ls : Array Slot), lv_has ls 6 [(0, .ref (ad 0)), (1, .int a1), (2, .int a2), (3, .int v38), (4, .int v19)] → va_P D vwCl (q_WX cI cJ ad x39 j) H → va_D A (q_WX cI cJ ad x39 j) → va_S A s.heap H locs → J163 v38 x39 = some res → W p l e { frames := 6, cells := 0, slots := 0, locals := 141 } s m args below meth c H locs 0 0 Q (F0 m 163 ls []) := by
                        clear hF; intro v38 x39 H locs ls hl hP hD hS hF
                        rw [hJ163] at hF
                        try dsimp only at hF
                        obtain ⟨v40, ev40⟩ : ∃ y : Int32, y = v19 + 1 := ⟨_, rfl⟩
                        have hF := q_let_e hF ev40
                        refine lv_iinc (v := v40) (lv' := [(4, .int v40), (0, .ref (ad 0)), (1, .int a1), (2, .int a2), (3, .int v38)]) hx hb dX6_hides_163 hl (k := 4) rfl (by rw [ev40]; rfl) (by decide) rfl (fun ls hl => ?_)
                        refine lv_goto (tgt := 84) hx hb dX6_hides_166 (by decide) ?_
                        exact ih _ _ _ _ _ _ (lv_sub hl [1, 2, 3, 4, 0] rfl) hP hD hS hk hF
                      refine lv_if_eq (tgt := 163) hx hb dX6_hides_129 (by decide) (fun c29 => ?_) (fun c29 => ?_)
                      · have hF := q_it hF c29
                        exact K163 _ _ _ _ _ (lv_sub hl [1, 2, 3, 4, 5] rfl) hP hD hS hF
                      · have hF := q_ie hF c29
                        refine lv_aload_n hx hb dX6_hides_132 rfl (lv_at hl 1 rfl) ?_
                        refine qg_X_X6_alarms hM hP fl_X6_33 dX6_hides_133 ?_
                        refine qg_X_X0_bunchOf hM hP fl_X6_161 dX6_hides_136 ?_
                        refine lv_iload hx hb dX6_hides_139 (lv_at hl 5 rfl) ?_
                        obtain ⟨h30, hF⟩ := q_gd_e hF
                        refine ql_X_X0_bunchOf hM hP h30 dX6_hides_141 ?_
                        refine lv_bipush (v := -4) hx hb dX6_hides_142 (by decide) ?_
                        refine lv_icmp_ne (tgt := 163) hx hb dX6_hides_144 (by decide) (fun c31 => ?_) (fun c31 => ?_)
                        · have hF := q_ie hF c31
                          exact K163 _ _ _ _ _ (lv_sub hl [1, 2, 3, 4, 5] rfl) hP hD hS hF
                        · have hF := q_it hF c31
                          refine lv_aload_n hx hb dX6_hides_147 rfl (lv_at hl 1 rfl) ?_
                          refine qg_X_X6_row hM hP fl_X6_26 dX6_hides_148 ?_
                          refine lv_iload hx hb dX6_hides_151 (lv_at hl 5 rfl) ?_
                          refine lv_iload_n hx hb dX6_hides_153 rfl (lv_at hl 2 rfl) ?_
                          obtain ⟨r32, x33, hC34, hF⟩ := q_b2_e hF
                          refine q_calli hM (c_X3_alarmsWithout l D cI cJ g ad j _ _ _ _ hC34) hP hD hS ky_X3_alarmsWithout ml_X6_154 rfl rfl ⟨Nat.le_of_ble_eq_true rfl, Nat.le_of_ble_eq_true rfl⟩ 3 rfl rfl rfl hl.1 rfl (Nat.le_of_ble_eq_true rfl) ⟨Nat.zero_le _, Nat.zero_le _⟩ dX6_hides_154 (fun H locs hz35 hP hD hS => ?_)
                          refine lv_if_eq (tgt := 163) hx hb dX6_hides_157 (by decide) (fun c36 => ?_) (fun c36 => ?_)
                          · have hF := q_it hF c36
                            exact K163 _ _ _ _ _ (lv_sub hl [1, 2, 3, 4, 5] rfl) hP hD hS hF
                          · have hF := q_ie hF c36
                            obtain ⟨v37, ev37⟩ : ∃ y : Int32, y = v18 + 1 := ⟨_, rfl⟩
                            have hF := q_let_e hF ev37
                            refine lv_iinc (v := v37) (lv' := [(3, .int v37), (5, .int t28), (0, .ref (ad 0)), (1, .int a1), (2, .int a2), (4, .int v19)]) hx hb dX6_hides_160 hl (k := 4) rfl (by rw [ev37]; rfl) (by decide) rfl (fun ls hl => ?_)
                            exact K163 _ _ _ _ _ (lv_sub hl [2, 3, 4, 0, 5] rfl) hP hD hS hF
                    obtain ⟨J124, hJ124, hF⟩ := q_jn_e hF
                    have K124 : ∀ (H : Heap) (locs : List Loc) (ls : Array Slot), lv_has ls 6 [(0, .ref (ad 0)), (1, .int a1), (2, .int a2), (3, .int v18), (4, .int v19)] → va_P D vwCl (q_WX cI cJ ad x21 j) H → va_D A (q_WX cI cJ ad x21 j) → va_S A s.heap H locs → J124 = some res → W p l e { frames := 6, cells := 0, slots := 0, locals := 141 } s m args below meth c H locs 0 0 Q (F0 m 124 ls []) := by
                      clear hF; intro H locs ls hl hP hD hS hF
                      rw [hJ124] at hF
                      refine lv_iconst (v := 0) hx hb dX6_hides_124 (by decide) ?_
                      exact K125 _ _ _ _ (lv_sub hl [0, 1, 2, 3, 4] rfl) hP hD hS hF
                    refine lv_icmp_eq (tgt := 124) hx hb dX6_hides_106 (by decide) (fun c25 => ?_) (fun c25 => ?_)
                    · have hF := q_it hF c25
                      exact K124 _ _ _ (lv_sub hl [0, 1, 2, 3, 4] rfl) hP hD hS hF
                    · have hF := q_ie hF c25
                      refine lv_iload_n hx hb dX6_hides_109 rfl (lv_at hl 2 rfl) ?_
                      refine lv_iconst (v := -1) hx hb dX6_hides_110 (by decide) ?_
                      obtain ⟨J120, hJ120, hF⟩ := q_jn_e hF
                      have K120 : ∀ (H : Heap) (locs : List Loc) (ls : Array Slot), lv_has ls 6 [(0, .ref (ad 0)), (1, .int a1), (2, .int a2), (3, .int v18), (4, .int v19)] → va_P D vwCl (q_WX cI cJ ad x21 j) H → va_D A (q_WX cI cJ ad x21 j) → va_S A s.heap H locs → J120 = some res → W p l e { frames := 6, cells := 0, slots := 0, locals := 141 } s m args below meth c H locs 0 0 Q (F0 m 120 ls []) := by
                        clear hF; intro H locs ls hl hP hD hS hF
                        rw [hJ120] at hF
                        refine lv_iconst (v := 1) hx hb dX6_hides_120 (by decide) ?_
                        refine lv_goto (tgt := 125) hx hb dX6_hides_121 (by decide) ?_
                        exact K125 _ _ _ _ (lv_sub hl [0, 1, 2, 3, 4] rfl) hP hD hS hF
                      refine lv_icmp_eq (tgt := 120) hx hb dX6_hides_111 (by decide) (fun c26 => ?_) (fun c26 => ?_)
                      · have hF := q_it hF c26
                        exact K120 _ _ _ (lv_sub hl [0, 1, 2, 3, 4] rfl) hP hD hS hF
                      · have hF := q_ie hF c26
                        refine lv_iload_n hx hb dX6_hides_114 rfl (lv_at hl 2 rfl) ?_
                        refine lv_iload hx hb dX6_hides_115 (lv_at hl 4 rfl) ?_
                        refine lv_icmp_ne (tgt := 124) hx hb dX6_hides_117 (by decide) (fun c27 => ?_) (fun c27 => ?_)
                        · have hF := q_ie hF c27
                          exact K124 _ _ _ (lv_sub hl [0, 1, 2, 3, 4] rfl) hP hD hS hF
                        · have hF := q_it hF c27
                          exact K120 _ _ _ (lv_sub hl [0, 1, 2, 3, 4] rfl) hP hD hS hF
            refine L84 _ _ _ _ _ _ _ _ (lv_sub hl [2, 3, 4, 1, 0] rfl) hP hD hS ?_ hF
            clear hF
            intro e20 x22 H locs ls hl hP hD hS hF
            refine lv_iload_n hx hb dX6_hides_169 rfl (lv_at hl 0 rfl) ?_
            exact hRet (e20, x22) _ _ _ _ hF rfl dX6_hides_170 hP hD hS
          refine lv_icmp_eq (tgt := 68) hx hb dX6_hides_49 (by decide) (fun c13 => ?_) (fun c13 => ?_)
          · have hF := q_it hF c13
            exact K68 _ _ _ (lv_sub hl [0, 1, 2] rfl) hP hD hS hF
          · have hF := q_ie hF c13
            refine lv_aload_n hx hb dX6_hides_52 rfl (lv_at hl 0 rfl) ?_
            refine qg_X_X6_row hM hP fl_X6_26 dX6_hides_53 ?_
            refine qg_X_X3_left hM hP fl_X6_105 dX6_hides_56 ?_
            refine lv_iload_n hx hb dX6_hides_59 rfl (lv_at hl 2 rfl) ?_
            obtain ⟨h14, hF⟩ := q_gd_e hF
            refine ql_X_X3_left hM hP h14 dX6_hides_60 ?_
            refine lv_iconst (v := 1) hx hb dX6_hides_61 (by decide) ?_
            refine lv_icmp_ne (tgt := 68) hx hb dX6_hides_62 (by decide) (fun c15 => ?_) (fun c15 => ?_)
            · have hF := q_ie hF c15
              exact K68 _ _ _ (lv_sub hl [0, 1, 2] rfl) hP hD hS hF
            · have hF := q_it hF c15
              refine lv_bipush (v := -2) hx hb dX6_hides_65 (by decide) ?_
              exact hRet ((-2 : Int32), x) _ _ _ _ hF rfl dX6_hides_67 hP hD hS
      refine lv_icmp_eq (tgt := 34) hx hb dX6_hides_18 (by decide) (fun c6 => ?_) (fun c6 => ?_)
      · have hF := q_it hF c6
        exact K34 _ _ _ (lv_sub hl [0, 1, 2] rfl) hP hD hS hF
      · have hF := q_ie hF c6
        refine lv_aload_n hx hb dX6_hides_21 rfl (lv_at hl 0 rfl) ?_
        refine qg_X_X6_row hM hP fl_X6_26 dX6_hides_22 ?_
        refine lv_iload_n hx hb dX6_hides_25 rfl (lv_at hl 2 rfl) ?_
        obtain ⟨r7, hC8, hF⟩ := q_b1_e hF
        refine q_calli hM (c_X3_has l D cI cJ g ad j _ _ _ hC8) hP hD hS ky_X3_has ml_X6_87 rfl rfl ⟨Nat.le_of_ble_eq_true rfl, Nat.le_of_ble_eq_true rfl⟩ 3 rfl rfl rfl hl.1 rfl (Nat.le_of_ble_eq_true rfl) ⟨Nat.zero_le _, Nat.zero_le _⟩ dX6_hides_26 (fun H locs hz9 hP hD hS => ?_)
        refine lv_if_ne (tgt := 34) hx hb dX6_hides_29 (by decide) (fun c10 => ?_) (fun c10 => ?_)
        · have hF := q_ie hF c10
          exact K34 _ _ _ (lv_sub hl [0, 1, 2] rfl) hP hD hS hF
        · have hF := q_it hF c10
          refine lv_iconst (v := -1) hx hb dX6_hides_32 (by decide) ?_
          exact hRet ((-1 : Int32), x) _ _ _ _ hF rfl dX6_hides_33 hP hD hS
theorem ky_X6_bunch : q_Y yX6_bunch cX6_bunch 3 (some .int) 2 := ⟨cw_X6_bunch, im_X6_bunch, se_X6_bunch, in_X6, by decide +kernel⟩
set_option maxHeartbeats 4000000 in
set_option maxRecDepth 100000 in
theorem c_X6_bunch (l : Launch) (D : va_G) (cI cJ : ClassId) (g : Nat → Nat) (ad : Nat → Nat) (j : JS) (x : IS) (a1 : Int32) (a2 : Int32) (res : Int32 × IS) (hF : f_X6_bunch x a1 a2 = some res) : q_Mi l yX6_bunch cX6_bunch 3 .int { frames := 6, cells := 0, slots := 0, locals := 141 } D cI cJ g (q_WX cI cJ ad x j) [.ref (ad 0), .int a1, .int a2] (res.1) (q_WX cI cJ ad (res.2) j) := by
  refine q_ofi (res := res) (fun u : Int32 × IS => u.1) (fun u : Int32 × IS => (q_WX cI cJ ad (u.2) j)) pl_X6 (Nat.le_of_ble_eq_true rfl) ?_
  intro p e s m args below meth c A Q hM hRet ls hl hP hD hS
  have hx := hM.1.1
  have hb := hM.1.2.1
  have hl : lv_has ls 3 [(0, .ref (ad 0)), (1, .int a1), (2, .int a2)] := hl
  unfold f_X6_bunch at hF
  refine lv_iload_n hx hb dX6_bunch_0 rfl (lv_at hl 1 rfl) ?_
  refine lv_iconst (v := -1) hx hb dX6_bunch_1 (by decide) ?_
  refine lv_icmp_lt (tgt := 14) hx hb dX6_bunch_2 (by decide) (fun c1 => ?_) (fun c1 => ?_)
  · have hF := q_it hF c1
    refine lv_iconst (v := -1) hx hb dX6_bunch_14 (by decide) ?_
    exact hRet ((-1 : Int32), x) _ _ _ _ hF rfl dX6_bunch_15 hP hD hS
  · have hF := q_ie hF c1
    refine lv_iload_n hx hb dX6_bunch_5 rfl (lv_at hl 2 rfl) ?_
    refine lv_if_lt (tgt := 14) hx hb dX6_bunch_6 (by decide) (fun c2 => ?_) (fun c2 => ?_)
    · have hF := q_it hF c2
      refine lv_iconst (v := -1) hx hb dX6_bunch_14 (by decide) ?_
      exact hRet ((-1 : Int32), x) _ _ _ _ hF rfl dX6_bunch_15 hP hD hS
    · have hF := q_ie hF c2
      refine lv_iload_n hx hb dX6_bunch_9 rfl (lv_at hl 2 rfl) ?_
      refine lv_iconst (v := 2) hx hb dX6_bunch_10 (by decide) ?_
      refine lv_icmp_le (tgt := 16) hx hb dX6_bunch_11 (by decide) (fun c3 => ?_) (fun c3 => ?_)
      · have hF := q_it hF c3
        refine lv_aload_n hx hb dX6_bunch_16 rfl (lv_at hl 0 rfl) ?_
        refine qg_X_X6_alarms hM hP fl_X6_33 dX6_bunch_17 ?_
        refine lv_aload_n hx hb dX6_bunch_20 rfl (lv_at hl 0 rfl) ?_
        refine qg_X_X6_row hM hP fl_X6_26 dX6_bunch_21 ?_
        obtain ⟨x4, hC5, hF⟩ := q_b1_e hF
        refine q_callv hM (c_X0_settle l D cI cJ g ad j _ _ hC5) hP hD hS ky_X0_settle ml_X6_157 rfl rfl ⟨Nat.le_of_ble_eq_true rfl, Nat.le_of_ble_eq_true rfl⟩ 4 rfl rfl rfl hl.1 rfl (Nat.le_of_ble_eq_true rfl) ⟨Nat.zero_le _, Nat.zero_le _⟩ dX6_bunch_24 (fun H locs hP hD hS => ?_)
        refine lv_iload_n hx hb dX6_bunch_27 rfl (lv_at hl 1 rfl) ?_
        refine lv_iconst (v := -1) hx hb dX6_bunch_28 (by decide) ?_
        refine lv_icmp_ne (tgt := 40) hx hb dX6_bunch_29 (by decide) (fun c6 => ?_) (fun c6 => ?_)
        · have hF := q_ie hF c6
          refine lv_iload_n hx hb dX6_bunch_40 rfl (lv_at hl 1 rfl) ?_
          refine lv_aload_n hx hb dX6_bunch_41 rfl (lv_at hl 0 rfl) ?_
          refine qg_X_X6_alarms hM hP fl_X6_33 dX6_bunch_42 ?_
          refine qg_X_X0_bunches hM hP fl_X6_167 dX6_bunch_45 ?_
          refine lv_icmp_ge (tgt := 57) hx hb dX6_bunch_48 (by decide) (fun c7 => ?_) (fun c7 => ?_)
          · have hF := q_it hF c7
            refine lv_bipush (v := -4) hx hb dX6_bunch_57 (by decide) ?_
            exact hRet ((-4 : Int32), x4) _ _ _ _ hF rfl dX6_bunch_59 hP hD hS
          · have hF := q_ie hF c7
            refine lv_iload_n hx hb dX6_bunch_51 rfl (lv_at hl 1 rfl) ?_
            refine lv_bipush (v := 48) hx hb dX6_bunch_52 (by decide) ?_
            refine lv_icmp_lt (tgt := 60) hx hb dX6_bunch_54 (by decide) (fun c8 => ?_) (fun c8 => ?_)
            · have hF := q_it hF c8
              refine lv_iload_n hx hb dX6_bunch_60 rfl (lv_at hl 2 rfl) ?_
              refine lv_if_ne (tgt := 76) hx hb dX6_bunch_61 (by decide) (fun c9 => ?_) (fun c9 => ?_)
              · have hF := q_ie hF c9
                refine lv_iload_n hx hb dX6_bunch_76 rfl (lv_at hl 2 rfl) ?_
                refine lv_iconst (v := 1) hx hb dX6_bunch_77 (by decide) ?_
                refine lv_icmp_ne (tgt := 93) hx hb dX6_bunch_78 (by decide) (fun c10 => ?_) (fun c10 => ?_)
                · have hF := q_ie hF c10
                  refine lv_aload_n hx hb dX6_bunch_93 rfl (lv_at hl 0 rfl) ?_
                  refine qg_X_X6_alarms hM hP fl_X6_33 dX6_bunch_94 ?_
                  refine qg_X_X0_peaks hM hP fl_X6_176 dX6_bunch_97 ?_
                  refine lv_iload_n hx hb dX6_bunch_100 rfl (lv_at hl 1 rfl) ?_
                  obtain ⟨h11, hF⟩ := q_gd_e hF
                  refine ql_X_X0_peaks hM hP h11 dX6_bunch_101 ?_
                  exact hRet ((x4 20 a1.toNatClampNeg), x4) _ _ _ _ hF rfl dX6_bunch_102 hP hD hS
                · have hF := q_it hF c10
                  refine lv_aload_n hx hb dX6_bunch_81 rfl (lv_at hl 0 rfl) ?_
                  refine qg_X_X6_alarms hM hP fl_X6_33 dX6_bunch_82 ?_
                  refine qg_X_X0_lasts hM hP fl_X6_173 dX6_bunch_85 ?_
                  refine lv_iload_n hx hb dX6_bunch_88 rfl (lv_at hl 1 rfl) ?_
                  obtain ⟨h12, hF⟩ := q_gd_e hF
                  refine ql_X_X0_lasts hM hP h12 dX6_bunch_89 ?_
                  refine lv_goto (tgt := 102) hx hb dX6_bunch_90 (by decide) ?_
                  exact hRet ((x4 19 a1.toNatClampNeg), x4) _ _ _ _ hF rfl dX6_bunch_102 hP hD hS
              · have hF := q_it hF c9
                refine lv_aload_n hx hb dX6_bunch_64 rfl (lv_at hl 0 rfl) ?_
                refine qg_X_X6_alarms hM hP fl_X6_33 dX6_bunch_65 ?_
                refine qg_X_X0_firsts hM hP fl_X6_170 dX6_bunch_68 ?_
                refine lv_iload_n hx hb dX6_bunch_71 rfl (lv_at hl 1 rfl) ?_
                obtain ⟨h13, hF⟩ := q_gd_e hF
                refine ql_X_X0_firsts hM hP h13 dX6_bunch_72 ?_
                refine lv_goto (tgt := 102) hx hb dX6_bunch_73 (by decide) ?_
                exact hRet ((x4 18 a1.toNatClampNeg), x4) _ _ _ _ hF rfl dX6_bunch_102 hP hD hS
            · have hF := q_ie hF c8
              refine lv_bipush (v := -4) hx hb dX6_bunch_57 (by decide) ?_
              exact hRet ((-4 : Int32), x4) _ _ _ _ hF rfl dX6_bunch_59 hP hD hS
        · have hF := q_it hF c6
          refine lv_aload_n hx hb dX6_bunch_32 rfl (lv_at hl 0 rfl) ?_
          refine qg_X_X6_alarms hM hP fl_X6_33 dX6_bunch_33 ?_
          refine qg_X_X0_bunches hM hP fl_X6_167 dX6_bunch_36 ?_
          exact hRet ((x4 22 0), x4) _ _ _ _ hF rfl dX6_bunch_39 hP hD hS
      · have hF := q_ie hF c3
        refine lv_iconst (v := -1) hx hb dX6_bunch_14 (by decide) ?_
        exact hRet ((-1 : Int32), x) _ _ _ _ hF rfl dX6_bunch_15 hP hD hS
theorem ky_X6_enough : q_Y yX6_enough cX6_enough 3 (some .int) 1 := ⟨cw_X6_enough, im_X6_enough, se_X6_enough, in_X6, by decide +kernel⟩
set_option maxHeartbeats 4000000 in
set_option maxRecDepth 100000 in
theorem c_X6_enough (l : Launch) (D : va_G) (cI cJ : ClassId) (g : Nat → Nat) (ad : Nat → Nat) (j : JS) (x : IS) (a1 : Int32) (res : Int32 × IS) (hF : f_X6_enough x a1 = some res) : q_Mi l yX6_enough cX6_enough 3 .int { frames := 6, cells := 0, slots := 0, locals := 141 } D cI cJ g (q_WX cI cJ ad x j) [.ref (ad 0), .int a1] (res.1) (q_WX cI cJ ad (res.2) j) := by
  refine q_ofi (res := res) (fun u : Int32 × IS => u.1) (fun u : Int32 × IS => (q_WX cI cJ ad (u.2) j)) pl_X6 (Nat.le_of_ble_eq_true rfl) ?_
  intro p e s m args below meth c A Q hM hRet ls hl hP hD hS
  have hx := hM.1.1
  have hb := hM.1.2.1
  have hl : lv_has ls 3 [(0, .ref (ad 0)), (1, .int a1)] := hl
  unfold f_X6_enough at hF
  refine lv_iload_n hx hb dX6_enough_0 rfl (lv_at hl 1 rfl) ?_
  refine lv_if_lt (tgt := 10) hx hb dX6_enough_1 (by decide) (fun c1 => ?_) (fun c1 => ?_)
  · have hF := q_it hF c1
    refine lv_iconst (v := -1) hx hb dX6_enough_10 (by decide) ?_
    exact hRet ((-1 : Int32), x) _ _ _ _ hF rfl dX6_enough_11 hP hD hS
  · have hF := q_ie hF c1
    refine lv_iload_n hx hb dX6_enough_4 rfl (lv_at hl 1 rfl) ?_
    refine lv_bipush (v := 48) hx hb dX6_enough_5 (by decide) ?_
    refine lv_icmp_le (tgt := 12) hx hb dX6_enough_7 (by decide) (fun c2 => ?_) (fun c2 => ?_)
    · have hF := q_it hF c2
      refine lv_aload_n hx hb dX6_enough_12 rfl (lv_at hl 0 rfl) ?_
      refine qg_X_X6_alarms hM hP fl_X6_33 dX6_enough_13 ?_
      refine lv_aload_n hx hb dX6_enough_16 rfl (lv_at hl 0 rfl) ?_
      refine qg_X_X6_row hM hP fl_X6_26 dX6_enough_17 ?_
      obtain ⟨x3, hC4, hF⟩ := q_b1_e hF
      refine q_callv hM (c_X0_settle l D cI cJ g ad j _ _ hC4) hP hD hS ky_X0_settle ml_X6_157 rfl rfl ⟨Nat.le_of_ble_eq_true rfl, Nat.le_of_ble_eq_true rfl⟩ 4 rfl rfl rfl hl.1 rfl (Nat.le_of_ble_eq_true rfl) ⟨Nat.zero_le _, Nat.zero_le _⟩ dX6_enough_20 (fun H locs hP hD hS => ?_)
      refine lv_iconst (v := 1) hx hb dX6_enough_23 (by decide) ?_
      refine lv_istore_n (lv' := [(2, .int (1 : Int32)), (0, .ref (ad 0)), (1, .int a1)]) hx hb dX6_enough_24 rfl hl (by decide) rfl (fun ls hl => ?_)
      have L25 : ∀ (k : IS → Option (Int32 × IS)) (n : Nat) (v5 : Int32) (x6 : IS) (H : Heap) (locs : List Loc) (ls : Array Slot), lv_has ls 3 [(0, .ref (ad 0)), (1, .int a1), (2, .int v5)] → va_P D vwCl (q_WX cI cJ ad x6 j) H → va_D A (q_WX cI cJ ad x6 j) → va_S A s.heap H locs → (∀ (x7 : IS) (H : Heap) (locs : List Loc) (ls : Array Slot), lv_has ls 3 [] → va_P D vwCl (q_WX cI cJ ad x7 j) H → va_D A (q_WX cI cJ ad x7 j) → va_S A s.heap H locs → k x7 = some res → W p l e { frames := 6, cells := 0, slots := 0, locals := 141 } s m args below meth c H locs 0 0 Q (F0 m 55 ls [])) → f_X6_enough_L25 a1 k n v5 x6 = some res → W p l e { frames := 6, cells := 0, slots := 0, locals := 141 } s m args below meth c H locs 0 0 Q (F0 m 25 ls []) := by
        intro k n
        induction n with
        | zero => intro v5 x6 H locs ls hl hP hD hS hk hF; exact q_no hF
        | succ n ih =>
          intro v5 x6 H locs ls hl hP hD hS hk hF
          have hF : f_X6_enough_L25F a1 k (f_X6_enough_L25 a1 k n) v5 x6 = some res := hF
          unfold f_X6_enough_L25F at hF
          refine lv_iload_n hx hb dX6_enough_25 rfl (lv_at hl 2 rfl) ?_
          refine lv_bipush (v := 40) hx hb dX6_enough_26 (by decide) ?_
          refine lv_icmp_gt (tgt := 55) hx hb dX6_enough_28 (by decide) (fun c8 => ?_) (fun c8 => ?_)
          · have hF := q_it hF c8
            exact hk _ _ _ _ (lv_sub hl [] rfl) hP hD hS hF
          · have hF := q_ie hF c8
            refine lv_aload_n hx hb dX6_enough_31 rfl (lv_at hl 0 rfl) ?_
            refine qg_X_X6_alarms hM hP fl_X6_33 dX6_enough_32 ?_
            refine lv_iload_n hx hb dX6_enough_35 rfl (lv_at hl 2 rfl) ?_
            refine lv_aload_n hx hb dX6_enough_36 rfl (lv_at hl 0 rfl) ?_
            refine qg_X_X6_row hM hP fl_X6_26 dX6_enough_37 ?_
            obtain ⟨r9, hC10, hF⟩ := q_b1_e hF
            refine q_calli hM (c_X0_howManyBy l D cI cJ g ad j _ _ _ hC10) hP hD hS ky_X0_howManyBy ml_X6_179 rfl rfl ⟨Nat.le_of_ble_eq_true rfl, Nat.le_of_ble_eq_true rfl⟩ 4 rfl rfl rfl hl.1 rfl (Nat.le_of_ble_eq_true rfl) ⟨Nat.zero_le _, Nat.zero_le _⟩ dX6_enough_40 (fun H locs hz11 hP hD hS => ?_)
            refine lv_iload_n hx hb dX6_enough_43 rfl (lv_at hl 1 rfl) ?_
            refine lv_icmp_gt (tgt := 49) hx hb dX6_enough_44 (by decide) (fun c12 => ?_) (fun c12 => ?_)
            · have hF := q_it hF c12
              obtain ⟨v13, ev13⟩ : ∃ y : Int32, y = v5 + 1 := ⟨_, rfl⟩
              have hF := q_let_e hF ev13
              refine lv_iinc (v := v13) (lv' := [(2, .int v13), (0, .ref (ad 0)), (1, .int a1)]) hx hb dX6_enough_49 hl (k := 2) rfl (by rw [ev13]; rfl) (by decide) rfl (fun ls hl => ?_)
              refine lv_goto (tgt := 25) hx hb dX6_enough_52 (by decide) ?_
              exact ih _ _ _ _ _ (lv_sub hl [1, 2, 0] rfl) hP hD hS hk hF
            · have hF := q_ie hF c12
              refine lv_iload_n hx hb dX6_enough_47 rfl (lv_at hl 2 rfl) ?_
              exact hRet (v5, x6) _ _ _ _ hF rfl dX6_enough_48 hP hD hS
      refine L25 _ _ _ _ _ _ _ (lv_sub hl [1, 2, 0] rfl) hP hD hS ?_ hF
      clear hF
      intro x7 H locs ls hl hP hD hS hF
      refine lv_bipush (v := -4) hx hb dX6_enough_55 (by decide) ?_
      exact hRet ((-4 : Int32), x7) _ _ _ _ hF rfl dX6_enough_57 hP hD hS
    · have hF := q_ie hF c2
      refine lv_iconst (v := -1) hx hb dX6_enough_10 (by decide) ?_
      exact hRet ((-1 : Int32), x) _ _ _ _ hF rfl dX6_enough_11 hP hD hS
theorem ky_X6_noise : q_Y yX6_noise cX6_noise 2 (some .int) 1 := ⟨cw_X6_noise, im_X6_noise, se_X6_noise, in_X6, by decide +kernel⟩
set_option maxHeartbeats 4000000 in
set_option maxRecDepth 100000 in
theorem c_X6_noise (l : Launch) (D : va_G) (cI cJ : ClassId) (g : Nat → Nat) (ad : Nat → Nat) (j : JS) (x : IS) (a1 : Int32) (res : Int32) (hF : f_X6_noise x a1 = some res) : q_Mi l yX6_noise cX6_noise 2 .int { frames := 1, cells := 0, slots := 0, locals := 20 } D cI cJ g (q_WX cI cJ ad x j) [.ref (ad 0), .int a1] (res) (q_WX cI cJ ad x j) := by
  refine q_ofi (res := res) (fun u : Int32 => u) (fun _ : Int32 => (q_WX cI cJ ad x j)) pl_X6 (Nat.le_of_ble_eq_true rfl) ?_
  intro p e s m args below meth c A Q hM hRet ls hl hP hD hS
  have hx := hM.1.1
  have hb := hM.1.2.1
  have hl : lv_has ls 2 [(0, .ref (ad 0)), (1, .int a1)] := hl
  unfold f_X6_noise at hF
  refine lv_iload_n hx hb dX6_noise_0 rfl (lv_at hl 1 rfl) ?_
  obtain ⟨r1, hC2, hF⟩ := q_b1_e hF
  refine q_calliS hM (c_X6_isPower l D cI cJ g (q_WX cI cJ ad x j) _ _ hC2) hP hD hS ky_X6_isPower ml_X6_91 rfl rfl ⟨Nat.le_of_ble_eq_true rfl, Nat.le_of_ble_eq_true rfl⟩ rfl hl.1 rfl (Nat.le_of_ble_eq_true rfl) ⟨Nat.zero_le _, Nat.zero_le _⟩ dX6_noise_1 (fun H locs hz3 hP hD hS => ?_)
  refine lv_if_ne (tgt := 9) hx hb dX6_noise_4 (by decide) (fun c4 => ?_) (fun c4 => ?_)
  · have hF := q_ie hF c4
    refine lv_iload_n hx hb dX6_noise_9 rfl (lv_at hl 1 rfl) ?_
    refine lv_bipush (v := 8) hx hb dX6_noise_10 (by decide) ?_
    refine lv_icmp_ge (tgt := 27) hx hb dX6_noise_12 (by decide) (fun c5 => ?_) (fun c5 => ?_)
    · have hF := q_it hF c5
      refine lv_iconst (v := 0) hx hb dX6_noise_27 (by decide) ?_
      exact hRet (0 : Int32) _ _ _ _ hF rfl dX6_noise_28 hP hD hS
    · have hF := q_ie hF c5
      refine lv_aload_n hx hb dX6_noise_15 rfl (lv_at hl 0 rfl) ?_
      refine qg_X_X6_dice hM hP fl_X6_40 dX6_noise_16 ?_
      refine qg_X_X1_weights hM hP fl_X6_183 dX6_noise_19 ?_
      refine lv_iload_n hx hb dX6_noise_22 rfl (lv_at hl 1 rfl) ?_
      obtain ⟨h6, hF⟩ := q_gd_e hF
      refine ql_X_X1_weights hM hP h6 dX6_noise_23 ?_
      refine lv_goto (tgt := 28) hx hb dX6_noise_24 (by decide) ?_
      exact hRet (x 23 a1.toNatClampNeg) _ _ _ _ hF rfl dX6_noise_28 hP hD hS
  · have hF := q_it hF c4
    refine lv_iconst (v := -1) hx hb dX6_noise_7 (by decide) ?_
    exact hRet (-1 : Int32) _ _ _ _ hF rfl dX6_noise_8 hP hD hS
theorem ky_X6_commonDivisor : q_YS yX6_commonDivisor cX6_commonDivisor 11 (some .long) 2 := ⟨cw_X6_commonDivisor, st_X6_commonDivisor, in_X6, by decide +kernel⟩
set_option maxHeartbeats 4000000 in
set_option maxRecDepth 100000 in
theorem c_X6_commonDivisor (l : Launch) (D : va_G) (cI cJ : ClassId) (g : Nat → Nat) (w : va_W) (a1 : Int64) (a2 : Int64) (res : Int64) (hF : f_X6_commonDivisor a1 a2 = some res) : q_Ml l yX6_commonDivisor cX6_commonDivisor 11 { frames := 0, cells := 0, slots := 0, locals := 0 } D cI cJ g w [.long a1, .long a2] (res) w := by
  refine q_ofl (res := res) (fun u : Int64 => u) (fun _ : Int64 => w) pl_X6 (Nat.le_of_ble_eq_true rfl) ?_
  intro p e s m args below meth c A Q hM hRet ls hl hP hD hS
  have hx := hM.1.1
  have hb := hM.1.2.1
  have hl : lv_has ls 11 [(0, .long a1), (2, .long a2)] := hl
  unfold f_X6_commonDivisor at hF
  refine lv_lload_n hx hb dX6_commonDivisor_0 rfl (lv_at hl 0 rfl) ?_
  refine lv_lstore (lv' := [(4, .long a1), (0, .long a1), (2, .long a2)]) hx hb dX6_commonDivisor_1 hl (by decide) rfl (fun ls hl => ?_)
  refine lv_lload_n hx hb dX6_commonDivisor_3 rfl (lv_at hl 2 rfl) ?_
  refine lv_lstore (lv' := [(6, .long a2), (4, .long a1), (0, .long a1), (2, .long a2)]) hx hb dX6_commonDivisor_4 hl (by decide) rfl (fun ls hl => ?_)
  refine lv_iconst (v := 0) hx hb dX6_commonDivisor_6 (by decide) ?_
  refine lv_istore (lv' := [(8, .int (0 : Int32)), (6, .long a2), (4, .long a1), (0, .long a1), (2, .long a2)]) hx hb dX6_commonDivisor_7 hl (by decide) rfl (fun ls hl => ?_)
  have L9 : ∀ (k : Int64 → Option (Int64)) (n : Nat) (v1 : Int64) (v2 : Int64) (v3 : Int32) (H : Heap) (locs : List Loc) (ls : Array Slot), lv_has ls 11 [(4, .long v1), (6, .long v2), (8, .int v3)] → va_P D vwCl w H → va_D A w → va_S A s.heap H locs → (∀ (e4 : Int64) (H : Heap) (locs : List Loc) (ls : Array Slot), lv_has ls 11 [(4, .long e4)] → va_P D vwCl w H → va_D A w → va_S A s.heap H locs → k e4 = some res → W p l e { frames := 0, cells := 0, slots := 0, locals := 0 } s m args below meth c H locs 0 0 Q (F0 m 45 ls [])) → f_X6_commonDivisor_L9 k n v1 v2 v3 = some res → W p l e { frames := 0, cells := 0, slots := 0, locals := 0 } s m args below meth c H locs 0 0 Q (F0 m 9 ls []) := by
    intro k n
    induction n with
    | zero => intro v1 v2 v3 H locs ls hl hP hD hS hk hF; exact q_no hF
    | succ n ih =>
      intro v1 v2 v3 H locs ls hl hP hD hS hk hF
      have hF : f_X6_commonDivisor_L9F k (f_X6_commonDivisor_L9 k n) v1 v2 v3 = some res := hF
      unfold f_X6_commonDivisor_L9F at hF
      refine lv_iload hx hb dX6_commonDivisor_9 (lv_at hl 2 rfl) ?_
      refine lv_sipush (v := 200) hx hb dX6_commonDivisor_11 (by decide) ?_
      refine lv_icmp_ge (tgt := 45) hx hb dX6_commonDivisor_14 (by decide) (fun c5 => ?_) (fun c5 => ?_)
      · have hF := q_it hF c5
        exact hk _ _ _ _ (lv_sub hl [0] rfl) hP hD hS hF
      · have hF := q_ie hF c5
        refine lv_lload hx hb dX6_commonDivisor_17 (lv_at hl 1 rfl) ?_
        refine lv_lconst (v := 0) hx hb dX6_commonDivisor_19 (by decide) ?_
        refine W.lcmp hx hb dX6_commonDivisor_20 ?_
        refine lv_if_eq (tgt := 45) hx hb dX6_commonDivisor_21 (by decide) (fun c6 => ?_) (fun c6 => ?_)
        · have hF := q_it hF c6
          exact hk _ _ _ _ (lv_sub hl [0] rfl) hP hD hS hF
        · have hF := q_ie hF c6
          refine lv_lload hx hb dX6_commonDivisor_24 (lv_at hl 0 rfl) ?_
          refine lv_lload hx hb dX6_commonDivisor_26 (lv_at hl 1 rfl) ?_
          obtain ⟨h7, hF⟩ := q_gd_e hF
          refine lv_lrem hx hb dX6_commonDivisor_28 h7 ?_
          refine lv_topl (fun v8 ev8 => ?_)
          have hF := q_let_e hF ev8
          refine lv_lstore (lv' := [(9, .long v8), (4, .long v1), (6, .long v2), (8, .int v3)]) hx hb dX6_commonDivisor_29 hl (by decide) rfl (fun ls hl => ?_)
          refine lv_lload hx hb dX6_commonDivisor_31 (lv_at hl 2 rfl) ?_
          refine lv_lstore (lv' := [(4, .long v2), (9, .long v8), (6, .long v2), (8, .int v3)]) hx hb dX6_commonDivisor_33 hl (by decide) rfl (fun ls hl => ?_)
          refine lv_lload hx hb dX6_commonDivisor_35 (lv_at hl 1 rfl) ?_
          refine lv_lstore (lv' := [(6, .long v8), (4, .long v2), (9, .long v8), (8, .int v3)]) hx hb dX6_commonDivisor_37 hl (by decide) rfl (fun ls hl => ?_)
          obtain ⟨v9, ev9⟩ : ∃ y : Int32, y = v3 + 1 := ⟨_, rfl⟩
          have hF := q_let_e hF ev9
          refine lv_iinc (v := v9) (lv' := [(8, .int v9), (6, .long v8), (4, .long v2), (9, .long v8)]) hx hb dX6_commonDivisor_39 hl (k := 3) rfl (by rw [ev9]; rfl) (by decide) rfl (fun ls hl => ?_)
          refine lv_goto (tgt := 9) hx hb dX6_commonDivisor_42 (by decide) ?_
          exact ih _ _ _ _ _ _ (lv_sub hl [2, 1, 0] rfl) hP hD hS hk hF
  refine L9 _ _ _ _ _ _ _ _ (lv_sub hl [2, 1, 0] rfl) hP hD hS ?_ hF
  clear hF
  intro e4 H locs ls hl hP hD hS hF
  refine lv_lload hx hb dX6_commonDivisor_45 (lv_at hl 0 rfl) ?_
  exact hRet e4 _ _ _ _ hF dX6_commonDivisor_47 hP hD hS
theorem ky_X6_odds : q_Y yX6_odds cX6_odds 8 (some .long) 1 := ⟨cw_X6_odds, im_X6_odds, se_X6_odds, in_X6, by decide +kernel⟩
set_option maxHeartbeats 4000000 in
set_option maxRecDepth 100000 in
theorem c_X6_odds (l : Launch) (D : va_G) (cI cJ : ClassId) (g : Nat → Nat) (ad : Nat → Nat) (x : IS) (j : JS) (a1 : Int32) (res : Int64 × JS) (hF : f_X6_odds x j a1 = some res) : q_Ml l yX6_odds cX6_odds 8 { frames := 4, cells := 0, slots := 0, locals := 107 } D cI cJ g (q_WX cI cJ ad x j) [.ref (ad 0), .int a1] (res.1) (q_WX cI cJ ad x (res.2)) := by
  refine q_ofl (res := res) (fun u : Int64 × JS => u.1) (fun u : Int64 × JS => (q_WX cI cJ ad x (u.2))) pl_X6 (Nat.le_of_ble_eq_true rfl) ?_
  intro p e s m args below meth c A Q hM hRet ls hl hP hD hS
  have hx := hM.1.1
  have hb := hM.1.2.1
  have hl : lv_has ls 8 [(0, .ref (ad 0)), (1, .int a1)] := hl
  unfold f_X6_odds at hF
  refine lv_iload_n hx hb dX6_odds_0 rfl (lv_at hl 1 rfl) ?_
  refine lv_if_lt (tgt := 9) hx hb dX6_odds_1 (by decide) (fun c1 => ?_) (fun c1 => ?_)
  · have hF := q_it hF c1
    refine lv_ldc2 hx hb hM.1.2.2.2.1 (hM.1.2.2.2.2 _ kl_X6_186) dX6_odds_9 ?_
    exact hRet ((-1 : Int64), j) _ _ _ _ hF dX6_odds_12 hP hD hS
  · have hF := q_ie hF c1
    refine lv_iload_n hx hb dX6_odds_4 rfl (lv_at hl 1 rfl) ?_
    refine lv_iconst (v := 1) hx hb dX6_odds_5 (by decide) ?_
    refine lv_icmp_le (tgt := 13) hx hb dX6_odds_6 (by decide) (fun c2 => ?_) (fun c2 => ?_)
    · have hF := q_it hF c2
      refine lv_aload_n hx hb dX6_odds_13 rfl (lv_at hl 0 rfl) ?_
      refine qg_X_X6_dice hM hP fl_X6_40 dX6_odds_14 ?_
      refine lv_aload_n hx hb dX6_odds_17 rfl (lv_at hl 0 rfl) ?_
      refine qg_X_X6_row hM hP fl_X6_26 dX6_odds_18 ?_
      refine qg_X_X3_look hM hP fl_X6_119 dX6_odds_21 ?_
      refine lv_aload_n hx hb dX6_odds_24 rfl (lv_at hl 0 rfl) ?_
      refine qg_X_X6_row hM hP fl_X6_26 dX6_odds_25 ?_
      refine qg_X_X3_mode hM hP fl_X6_125 dX6_odds_28 ?_
      obtain ⟨j3, hC4, hF⟩ := q_b1_e hF
      refine q_callv hM (c_X1_countFloors l D cI cJ g ad _ _ _ _ hC4) hP hD hS ky_X1_countFloors ml_X6_188 rfl rfl ⟨Nat.le_of_ble_eq_true rfl, Nat.le_of_ble_eq_true rfl⟩ 5 rfl rfl rfl hl.1 rfl (Nat.le_of_ble_eq_true rfl) ⟨Nat.zero_le _, Nat.zero_le _⟩ dX6_odds_31 (fun H locs hP hD hS => ?_)
      refine lv_aload_n hx hb dX6_odds_34 rfl (lv_at hl 0 rfl) ?_
      refine qg_X_X6_dice hM hP fl_X6_40 dX6_odds_35 ?_
      refine lv_aload_n hx hb dX6_odds_38 rfl (lv_at hl 0 rfl) ?_
      refine qg_X_X6_row hM hP fl_X6_26 dX6_odds_39 ?_
      refine qg_X_X3_look hM hP fl_X6_119 dX6_odds_42 ?_
      refine lv_iconst (v := 3) hx hb dX6_odds_45 (by decide) ?_
      refine ql_X_X3_look hM hP (by decide) dX6_odds_46 ?_
      refine lv_aload_n hx hb dX6_odds_47 rfl (lv_at hl 0 rfl) ?_
      refine qg_X_X6_row hM hP fl_X6_26 dX6_odds_48 ?_
      refine qg_X_X3_look hM hP fl_X6_119 dX6_odds_51 ?_
      refine lv_iconst (v := 4) hx hb dX6_odds_54 (by decide) ?_
      refine ql_X_X3_look hM hP (by decide) dX6_odds_55 ?_
      obtain ⟨r5, hC6, hF⟩ := q_b1_e hF
      refine q_calll hM (c_X1_alarmWays l D cI cJ g ad _ _ _ _ _ hC6) hP hD hS ky_X1_alarmWays ml_X6_192 rfl rfl ⟨Nat.le_of_ble_eq_true rfl, Nat.le_of_ble_eq_true rfl⟩ 5 rfl rfl rfl hl.1 rfl (Nat.le_of_ble_eq_true rfl) ⟨Nat.zero_le _, Nat.zero_le _⟩ dX6_odds_56 (fun H locs hP hD hS => ?_)
      refine lv_lstore_n (lv' := [(2, .long r5), (0, .ref (ad 0)), (1, .int a1)]) hx hb dX6_odds_59 rfl hl (by decide) rfl (fun ls hl => ?_)
      refine lv_aload_n hx hb dX6_odds_60 rfl (lv_at hl 1 rfl) ?_
      refine qg_X_X6_dice hM hP fl_X6_40 dX6_odds_61 ?_
      refine lv_aload_n hx hb dX6_odds_64 rfl (lv_at hl 1 rfl) ?_
      refine qg_X_X6_row hM hP fl_X6_26 dX6_odds_65 ?_
      refine qg_X_X3_look hM hP fl_X6_119 dX6_odds_68 ?_
      refine lv_iconst (v := 0) hx hb dX6_odds_71 (by decide) ?_
      refine ql_X_X3_look hM hP (by decide) dX6_odds_72 ?_
      obtain ⟨r7, hC8, hF⟩ := q_b1_e hF
      refine q_calll hM (c_X1_allWays l D cI cJ g ad j3 _ _ _ hC8) hP hD hS ky_X1_allWays ml_X6_196 rfl rfl ⟨Nat.le_of_ble_eq_true rfl, Nat.le_of_ble_eq_true rfl⟩ 5 rfl rfl rfl hl.1 rfl (Nat.le_of_ble_eq_true rfl) ⟨Nat.zero_le _, Nat.zero_le _⟩ dX6_odds_73 (fun H locs hP hD hS => ?_)
      refine lv_lstore (lv' := [(4, .long r7), (2, .long r5), (0, .ref (ad 0)), (1, .int a1)]) hx hb dX6_odds_76 hl (by decide) rfl (fun ls hl => ?_)
      refine lv_lload_n hx hb dX6_odds_78 rfl (lv_at hl 1 rfl) ?_
      refine lv_lload hx hb dX6_odds_79 (lv_at hl 0 rfl) ?_
      obtain ⟨r9, hC10, hF⟩ := q_b1_e hF
      refine q_calllS hM (c_X6_commonDivisor l D cI cJ g (q_WX cI cJ ad x j3) _ _ _ hC10) hP hD hS ky_X6_commonDivisor ml_X6_200 rfl rfl ⟨Nat.le_of_ble_eq_true rfl, Nat.le_of_ble_eq_true rfl⟩ rfl hl.1 rfl (Nat.le_of_ble_eq_true rfl) ⟨Nat.zero_le _, Nat.zero_le _⟩ dX6_odds_81 (fun H locs hP hD hS => ?_)
      refine lv_lstore (lv' := [(6, .long r9), (4, .long r7), (2, .long r5), (0, .ref (ad 0)), (1, .int a1)]) hx hb dX6_odds_84 hl (by decide) rfl (fun ls hl => ?_)
      refine lv_lload hx hb dX6_odds_86 (lv_at hl 0 rfl) ?_
      refine lv_lconst (v := 0) hx hb dX6_odds_88 (by decide) ?_
      refine W.lcmp hx hb dX6_odds_89 ?_
      refine lv_if_gt (tgt := 97) hx hb dX6_odds_90 (by decide) (fun c11 => ?_) (fun c11 => ?_)
      · have hF := q_it hF c11
        refine lv_iload_n hx hb dX6_odds_97 rfl (lv_at hl 4 rfl) ?_
        refine lv_if_ne (tgt := 105) hx hb dX6_odds_98 (by decide) (fun c12 => ?_) (fun c12 => ?_)
        · have hF := q_ie hF c12
          refine lv_lload hx hb dX6_odds_105 (lv_at hl 1 rfl) ?_
          refine lv_lload hx hb dX6_odds_107 (lv_at hl 0 rfl) ?_
          obtain ⟨h13, hF⟩ := q_gd_e hF
          refine lv_ldiv hx hb dX6_odds_109 h13 ?_
          exact hRet ((r7 / r9), j3) _ _ _ _ hF dX6_odds_110 hP hD hS
        · have hF := q_it hF c12
          refine lv_lload_n hx hb dX6_odds_101 rfl (lv_at hl 2 rfl) ?_
          refine lv_goto (tgt := 107) hx hb dX6_odds_102 (by decide) ?_
          refine lv_lload hx hb dX6_odds_107 (lv_at hl 0 rfl) ?_
          obtain ⟨h14, hF⟩ := q_gd_e hF
          refine lv_ldiv hx hb dX6_odds_109 h14 ?_
          exact hRet ((r5 / r9), j3) _ _ _ _ hF dX6_odds_110 hP hD hS
      · have hF := q_ie hF c11
        refine lv_ldc2 hx hb hM.1.2.2.2.1 (hM.1.2.2.2.2 _ kl_X6_186) dX6_odds_93 ?_
        exact hRet ((-1 : Int64), j3) _ _ _ _ hF dX6_odds_96 hP hD hS
    · have hF := q_ie hF c2
      refine lv_ldc2 hx hb hM.1.2.2.2.1 (hM.1.2.2.2.2 _ kl_X6_186) dX6_odds_9 ?_
      exact hRet ((-1 : Int64), j) _ _ _ _ hF dX6_odds_12 hP hD hS
theorem ky_X6_productIsNoMore : q_YS yX6_productIsNoMore cX6_productIsNoMore 19 (some .boolean) 4 := ⟨cw_X6_productIsNoMore, st_X6_productIsNoMore, in_X6, by decide +kernel⟩
set_option maxHeartbeats 4000000 in
set_option maxRecDepth 100000 in
theorem c_X6_productIsNoMore (l : Launch) (D : va_G) (cI cJ : ClassId) (g : Nat → Nat) (w : va_W) (a1 : Int64) (a2 : Int64) (a3 : Int64) (a4 : Int64) (res : Int32) (hF : f_X6_productIsNoMore a1 a2 a3 a4 = some res) : q_Mi l yX6_productIsNoMore cX6_productIsNoMore 19 .boolean { frames := 0, cells := 0, slots := 0, locals := 0 } D cI cJ g w [.long a1, .long a2, .long a3, .long a4] (res) w := by
  refine q_ofi (res := res) (fun u : Int32 => u) (fun _ : Int32 => w) pl_X6 (Nat.le_of_ble_eq_true rfl) ?_
  intro p e s m args below meth c A Q hM hRet ls hl hP hD hS
  have hx := hM.1.1
  have hb := hM.1.2.1
  have hl : lv_has ls 19 [(0, .long a1), (2, .long a2), (4, .long a3), (6, .long a4)] := hl
  unfold f_X6_productIsNoMore at hF
  refine lv_bipush (v := 26) hx hb dX6_productIsNoMore_0 (by decide) ?_
  refine lv_istore (lv' := [(8, .int (26 : Int32)), (0, .long a1), (2, .long a2), (4, .long a3), (6, .long a4)]) hx hb dX6_productIsNoMore_2 hl (by decide) rfl (fun ls hl => ?_)
  refine lv_lconst (v := 1) hx hb dX6_productIsNoMore_4 (by decide) ?_
  refine lv_iload hx hb dX6_productIsNoMore_5 (lv_at hl 0 rfl) ?_
  refine lv_lshl hx hb dX6_productIsNoMore_7 rfl ?_
  refine lv_lconst (v := 1) hx hb dX6_productIsNoMore_8 (by decide) ?_
  refine lv_lsub hx hb dX6_productIsNoMore_9 ?_
  refine lv_topl (fun v1 ev1 => ?_)
  have hF := q_let_e hF ev1
  refine lv_lstore (lv' := [(9, .long v1), (8, .int (26 : Int32)), (0, .long a1), (2, .long a2), (4, .long a3), (6, .long a4)]) hx hb dX6_productIsNoMore_10 hl (by decide) rfl (fun ls hl => ?_)
  refine lv_lload_n hx hb dX6_productIsNoMore_12 rfl (lv_at hl 2 rfl) ?_
  refine lv_lload hx hb dX6_productIsNoMore_13 (lv_at hl 0 rfl) ?_
  refine lv_land hx hb dX6_productIsNoMore_15 ?_
  refine lv_lload_n hx hb dX6_productIsNoMore_16 rfl (lv_at hl 3 rfl) ?_
  refine lv_lmul hx hb dX6_productIsNoMore_17 ?_
  refine lv_topl (fun v2 ev2 => ?_)
  have hF := q_let_e hF ev2
  refine lv_lstore (lv' := [(11, .long v2), (9, .long v1), (8, .int (26 : Int32)), (0, .long a1), (2, .long a2), (4, .long a3), (6, .long a4)]) hx hb dX6_productIsNoMore_18 hl (by decide) rfl (fun ls hl => ?_)
  refine lv_lload_n hx hb dX6_productIsNoMore_20 rfl (lv_at hl 3 rfl) ?_
  refine lv_iload hx hb dX6_productIsNoMore_21 (lv_at hl 2 rfl) ?_
  refine lv_lshr hx hb dX6_productIsNoMore_23 rfl ?_
  refine lv_lload_n hx hb dX6_productIsNoMore_24 rfl (lv_at hl 4 rfl) ?_
  refine lv_lmul hx hb dX6_productIsNoMore_25 ?_
  refine lv_lload hx hb dX6_productIsNoMore_26 (lv_at hl 0 rfl) ?_
  refine lv_iload hx hb dX6_productIsNoMore_28 (lv_at hl 2 rfl) ?_
  refine lv_lshr hx hb dX6_productIsNoMore_30 rfl ?_
  refine lv_ladd hx hb dX6_productIsNoMore_31 ?_
  refine lv_topl (fun v3 ev3 => ?_)
  have hF := q_let_e hF ev3
  refine lv_lstore (lv' := [(13, .long v3), (11, .long v2), (9, .long v1), (8, .int (26 : Int32)), (0, .long a1), (2, .long a2), (4, .long a3), (6, .long a4)]) hx hb dX6_productIsNoMore_32 hl (by decide) rfl (fun ls hl => ?_)
  refine lv_lload hx hb dX6_productIsNoMore_34 (lv_at hl 6 rfl) ?_
  refine lv_lload hx hb dX6_productIsNoMore_36 (lv_at hl 2 rfl) ?_
  refine lv_land hx hb dX6_productIsNoMore_38 ?_
  refine lv_lload hx hb dX6_productIsNoMore_39 (lv_at hl 7 rfl) ?_
  refine lv_lmul hx hb dX6_productIsNoMore_41 ?_
  refine lv_topl (fun v4 ev4 => ?_)
  have hF := q_let_e hF ev4
  refine lv_lstore (lv' := [(15, .long v4), (13, .long v3), (11, .long v2), (9, .long v1), (8, .int (26 : Int32)), (0, .long a1), (2, .long a2), (4, .long a3), (6, .long a4)]) hx hb dX6_productIsNoMore_42 hl (by decide) rfl (fun ls hl => ?_)
  refine lv_lload hx hb dX6_productIsNoMore_44 (lv_at hl 7 rfl) ?_
  refine lv_iload hx hb dX6_productIsNoMore_46 (lv_at hl 4 rfl) ?_
  refine lv_lshr hx hb dX6_productIsNoMore_48 rfl ?_
  refine lv_lload hx hb dX6_productIsNoMore_49 (lv_at hl 8 rfl) ?_
  refine lv_lmul hx hb dX6_productIsNoMore_51 ?_
  refine lv_lload hx hb dX6_productIsNoMore_52 (lv_at hl 0 rfl) ?_
  refine lv_iload hx hb dX6_productIsNoMore_54 (lv_at hl 4 rfl) ?_
  refine lv_lshr hx hb dX6_productIsNoMore_56 rfl ?_
  refine lv_ladd hx hb dX6_productIsNoMore_57 ?_
  refine lv_topl (fun v5 ev5 => ?_)
  have hF := q_let_e hF ev5
  refine lv_lstore (lv' := [(17, .long v5), (15, .long v4), (13, .long v3), (11, .long v2), (9, .long v1), (8, .int (26 : Int32)), (0, .long a1), (2, .long a2), (4, .long a3), (6, .long a4)]) hx hb dX6_productIsNoMore_58 hl (by decide) rfl (fun ls hl => ?_)
  refine lv_lload hx hb dX6_productIsNoMore_60 (lv_at hl 2 rfl) ?_
  refine lv_lload hx hb dX6_productIsNoMore_62 (lv_at hl 0 rfl) ?_
  refine W.lcmp hx hb dX6_productIsNoMore_64 ?_
  refine lv_if_eq (tgt := 82) hx hb dX6_productIsNoMore_65 (by decide) (fun c6 => ?_) (fun c6 => ?_)
  · have hF := q_it hF c6
    refine lv_lload hx hb dX6_productIsNoMore_82 (lv_at hl 3 rfl) ?_
    refine lv_lload hx hb dX6_productIsNoMore_84 (lv_at hl 4 rfl) ?_
    refine lv_land hx hb dX6_productIsNoMore_86 ?_
    refine lv_lload hx hb dX6_productIsNoMore_87 (lv_at hl 1 rfl) ?_
    refine lv_lload hx hb dX6_productIsNoMore_89 (lv_at hl 4 rfl) ?_
    refine lv_land hx hb dX6_productIsNoMore_91 ?_
    refine W.lcmp hx hb dX6_productIsNoMore_92 ?_
    refine lv_if_gt (tgt := 100) hx hb dX6_productIsNoMore_93 (by decide) (fun c7 => ?_) (fun c7 => ?_)
    · have hF := q_it hF c7
      refine lv_iconst (v := 0) hx hb dX6_productIsNoMore_100 (by decide) ?_
      exact hRet (0 : Int32) _ _ _ _ hF narrow_b0 dX6_productIsNoMore_101 hP hD hS
    · have hF := q_ie hF c7
      refine lv_iconst (v := 1) hx hb dX6_productIsNoMore_96 (by decide) ?_
      refine lv_goto (tgt := 101) hx hb dX6_productIsNoMore_97 (by decide) ?_
      exact hRet (1 : Int32) _ _ _ _ hF narrow_b1 dX6_productIsNoMore_101 hP hD hS
  · have hF := q_ie hF c6
    refine lv_lload hx hb dX6_productIsNoMore_68 (lv_at hl 2 rfl) ?_
    refine lv_lload hx hb dX6_productIsNoMore_70 (lv_at hl 0 rfl) ?_
    refine W.lcmp hx hb dX6_productIsNoMore_72 ?_
    refine lv_if_ge (tgt := 80) hx hb dX6_productIsNoMore_73 (by decide) (fun c8 => ?_) (fun c8 => ?_)
    · have hF := q_it hF c8
      refine lv_iconst (v := 0) hx hb dX6_productIsNoMore_80 (by decide) ?_
      exact hRet (0 : Int32) _ _ _ _ hF narrow_b0 dX6_productIsNoMore_81 hP hD hS
    · have hF := q_ie hF c8
      refine lv_iconst (v := 1) hx hb dX6_productIsNoMore_76 (by decide) ?_
      refine lv_goto (tgt := 81) hx hb dX6_productIsNoMore_77 (by decide) ?_
      exact hRet (1 : Int32) _ _ _ _ hF narrow_b1 dX6_productIsNoMore_81 hP hD hS
end
