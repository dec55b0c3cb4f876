section
theorem ky_X2_keep : q_Y yX2_keep cX2_keep 4 none 3 := ⟨cw_X2_keep, im_X2_keep, se_X2_keep, in_X2, by decide +kernel⟩
set_option maxHeartbeats 4000000 in
set_option maxRecDepth 100000 in
theorem c_X2_keep (l : Launch) (D : va_G) (cI cJ : ClassId) (g : Nat → Nat) (ad : Nat → Nat) (j : JS) (x : IS) (a1 : Int32) (a2 : Int32) (a3 : Int32) (res : IS) (hF : f_X2_keep x a1 a2 a3 = some res) : q_Mv l yX2_keep cX2_keep 4 { frames := 2, cells := 0, slots := 0, locals := 46 } D cI cJ g (q_WX cI cJ ad x j) [.ref (ad 6), .int a1, .int a2, .int a3] (q_WX cI cJ ad res j) := by
  refine q_ofv (res := res) (fun u : IS => (q_WX cI cJ ad u j)) pl_X2 (Nat.le_of_ble_eq_true rfl) ?_
  intro p e s m args below meth c A Q hM hRet ls hl hP hD hS
  have hx := hM.1.1
  have hb := hM.1.2.1
  have hl : lv_has ls 4 [(0, .ref (ad 6)), (1, .int a1), (2, .int a2), (3, .int a3)] := hl
  unfold f_X2_keep at hF
  refine lv_aload_n hx hb dX2_keep_0 rfl (lv_at hl 0 rfl) ?_
  refine qg_X_X2_size hM hP fl_X2_21 dX2_keep_1 ?_
  refine lv_bipush (v := 6) hx hb dX2_keep_4 (by decide) ?_
  obtain ⟨J13, hJ13, hF⟩ := q_jn_e hF
  have K13 : ∀ (x4 : IS) (H : Heap) (locs : List Loc) (ls : Array Slot), lv_has ls 4 [(0, .ref (ad 6)), (1, .int a1), (2, .int a2), (3, .int a3)] → va_P D vwCl (q_WX cI cJ ad x4 j) H → va_D A (q_WX cI cJ ad x4 j) → va_S A s.heap H locs → J13 x4 = some res → W p l e { frames := 2, cells := 0, slots := 0, locals := 46 } s m args below meth c H locs 0 0 Q (F0 m 13 ls []) := by
    clear hF; intro x4 H locs ls hl hP hD hS hF
    rw [hJ13] at hF
    try dsimp only at hF
    refine lv_aload_n hx hb dX2_keep_13 rfl (lv_at hl 0 rfl) ?_
    refine qg_X_X2_kinds hM hP fl_X2_9 dX2_keep_14 ?_
    refine lv_aload_n hx hb dX2_keep_17 rfl (lv_at hl 0 rfl) ?_
    refine qg_X_X2_size hM hP fl_X2_21 dX2_keep_18 ?_
    refine lv_iload_n hx hb dX2_keep_21 rfl (lv_at hl 1 rfl) ?_
    obtain ⟨h5, hF⟩ := q_gd_e hF
    refine qs_X_X2_kinds hM hP hD hS h5 dX2_keep_22 (fun x6 H locs ex6 hP hD hS => ?_)
    have hF := q_let_e hF ex6
    refine lv_aload_n hx hb dX2_keep_23 rfl (lv_at hl 0 rfl) ?_
    refine qg_X_X2_places hM hP fl_X2_15 dX2_keep_24 ?_
    refine lv_aload_n hx hb dX2_keep_27 rfl (lv_at hl 0 rfl) ?_
    refine qg_X_X2_size hM hP fl_X2_21 dX2_keep_28 ?_
    refine lv_iload_n hx hb dX2_keep_31 rfl (lv_at hl 2 rfl) ?_
    obtain ⟨h7, hF⟩ := q_gd_e hF
    refine qs_X_X2_places hM hP hD hS h7 dX2_keep_32 (fun x8 H locs ex8 hP hD hS => ?_)
    have hF := q_let_e hF ex8
    refine lv_aload_n hx hb dX2_keep_33 rfl (lv_at hl 0 rfl) ?_
    refine qg_X_X2_values hM hP fl_X2_18 dX2_keep_34 ?_
    refine lv_aload_n hx hb dX2_keep_37 rfl (lv_at hl 0 rfl) ?_
    refine qg_X_X2_size hM hP fl_X2_21 dX2_keep_38 ?_
    refine lv_iload_n hx hb dX2_keep_41 rfl (lv_at hl 3 rfl) ?_
    obtain ⟨h9, hF⟩ := q_gd_e hF
    refine qs_X_X2_values hM hP hD hS h9 dX2_keep_42 (fun x10 H locs ex10 hP hD hS => ?_)
    have hF := q_let_e hF ex10
    refine lv_aload_n hx hb dX2_keep_43 rfl (lv_at hl 0 rfl) ?_
    refine lv_dup hx hb dX2_keep_44 rfl ?_
    refine qg_X_X2_size hM hP fl_X2_21 dX2_keep_45 ?_
    refine lv_iconst (v := 1) hx hb dX2_keep_48 (by decide) ?_
    refine lv_iadd hx hb dX2_keep_49 ?_
    refine qp_X_X2_size hM hP hD hS fl_X2_21 dX2_keep_50 (fun x11 H locs ex11 hP hD hS => ?_)
    have hF := q_let_e hF ex11
    exact hRet _ _ _ _ _ hF dX2_keep_53 hP hD hS
  refine lv_icmp_lt (tgt := 13) hx hb dX2_keep_6 (by decide) (fun c1 => ?_) (fun c1 => ?_)
  · have hF := q_it hF c1
    exact K13 _ _ _ _ (lv_sub hl [0, 1, 2, 3] rfl) hP hD hS hF
  · have hF := q_ie hF c1
    refine lv_aload_n hx hb dX2_keep_9 rfl (lv_at hl 0 rfl) ?_
    obtain ⟨x2, hC3, hF⟩ := q_b1_e hF
    refine q_callv hM (c_X2_forgetOldest l D cI cJ g ad j _ _ hC3) hP hD hS ky_X2_forgetOldest ml_X2_25 rfl rfl ⟨Nat.le_of_ble_eq_true rfl, Nat.le_of_ble_eq_true rfl⟩ 6 rfl rfl rfl hl.1 rfl (Nat.le_of_ble_eq_true rfl) ⟨Nat.zero_le _, Nat.zero_le _⟩ dX2_keep_10 (fun H locs hP hD hS => ?_)
    exact K13 _ _ _ _ (lv_sub hl [0, 1, 2, 3] rfl) hP hD hS hF
theorem ky_J7_fill_53178__X3_left : q_YS yJ7_fill_53178 cJ7_fill_53178 4 none 2 := ⟨cw_J7_fill_53178, st_J7_fill_53178, in_J7, by decide +kernel⟩
set_option maxHeartbeats 4000000 in
set_option maxRecDepth 100000 in
theorem c_J7_fill_53178__X3_left (l : Launch) (D : va_G) (cI cJ : ClassId) (g : Nat → Nat) (ad : Nat → Nat) (j : JS) (x : IS) (a2 : Int32) (res : IS) (hF : f_J7_fill_53178__X3_left x a2 = some res) : q_Mv l yJ7_fill_53178 cJ7_fill_53178 4 { frames := 0, cells := 0, slots := 0, locals := 0 } D cI cJ g (q_WX cI cJ ad x j) [.ref (ad 13), .int a2] (q_WX cI cJ ad res j) := by
  refine q_ofv (res := res) (fun u : IS => (q_WX cI cJ ad u j)) pl_J7 (Nat.le_of_ble_eq_true rfl) ?_
  intro p e s m args below meth c A Q hM hRet ls hl hP hD hS
  have hx := hM.1.1
  have hb := hM.1.2.1
  have hl : lv_has ls 4 [(0, .ref (ad 13)), (1, .int a2)] := hl
  unfold f_J7_fill_53178__X3_left at hF
  refine lv_iconst (v := 0) hx hb dJ7_fill_53178_0 (by decide) ?_
  refine lv_istore_n (lv' := [(2, .int (0 : Int32)), (0, .ref (ad 13)), (1, .int a2)]) hx hb dJ7_fill_53178_1 rfl hl (by decide) rfl (fun ls hl => ?_)
  refine lv_aload_n hx hb dJ7_fill_53178_2 rfl (lv_at hl 1 rfl) ?_
  refine qn_X_X3_left hM hP dJ7_fill_53178_3 ?_
  refine lv_istore_n (lv' := [(3, .int (48 : Int32)), (2, .int (0 : Int32)), (0, .ref (ad 13)), (1, .int a2)]) hx hb dJ7_fill_53178_4 rfl hl (by decide) rfl (fun ls hl => ?_)
  have L5 : ∀ (k : IS → Option (IS)) (n : Nat) (v1 : Int32) (x2 : IS) (H : Heap) (locs : List Loc) (ls : Array Slot), lv_has ls 4 [(0, .ref (ad 13)), (1, .int a2), (2, .int v1), (3, .int (48 : Int32))] → va_P D vwCl (q_WX cI cJ ad x2 j) H → va_D A (q_WX cI cJ ad x2 j) → va_S A s.heap H locs → (∀ (x3 : IS) (H : Heap) (locs : List Loc) (ls : Array Slot), lv_has ls 4 [] → va_P D vwCl (q_WX cI cJ ad x3 j) H → va_D A (q_WX cI cJ ad x3 j) → va_S A s.heap H locs → k x3 = some res → W p l e { frames := 0, cells := 0, slots := 0, locals := 0 } s m args below meth c H locs 0 0 Q (F0 m 20 ls [])) → f_J7_fill_53178__X3_left_L5 a2 k n v1 x2 = some res → W p l e { frames := 0, cells := 0, slots := 0, locals := 0 } s m args below meth c H locs 0 0 Q (F0 m 5 ls []) := by
    intro k n
    induction n with
    | zero => intro v1 x2 H locs ls hl hP hD hS hk hF; exact q_no hF
    | succ n ih =>
      intro v1 x2 H locs ls hl hP hD hS hk hF
      have hF : f_J7_fill_53178__X3_left_L5F a2 k (f_J7_fill_53178__X3_left_L5 a2 k n) v1 x2 = some res := hF
      unfold f_J7_fill_53178__X3_left_L5F at hF
      refine lv_iload_n hx hb dJ7_fill_53178_5 rfl (lv_at hl 2 rfl) ?_
      refine lv_iload_n hx hb dJ7_fill_53178_6 rfl (lv_at hl 3 rfl) ?_
      refine lv_icmp_ge (tgt := 20) hx hb dJ7_fill_53178_7 (by decide) (fun c4 => ?_) (fun c4 => ?_)
      · have hF := q_it hF c4
        exact hk _ _ _ _ (lv_sub hl [] rfl) hP hD hS hF
      · have hF := q_ie hF c4
        refine lv_aload_n hx hb dJ7_fill_53178_10 rfl (lv_at hl 0 rfl) ?_
        refine lv_iload_n hx hb dJ7_fill_53178_11 rfl (lv_at hl 2 rfl) ?_
        refine lv_iload_n hx hb dJ7_fill_53178_12 rfl (lv_at hl 1 rfl) ?_
        obtain ⟨h5, hF⟩ := q_gd_e hF
        refine qs_X_X3_left hM hP hD hS h5 dJ7_fill_53178_13 (fun x6 H locs ex6 hP hD hS => ?_)
        have hF := q_let_e hF ex6
        obtain ⟨v7, ev7⟩ : ∃ y : Int32, y = v1 + 1 := ⟨_, rfl⟩
        have hF := q_let_e hF ev7
        refine lv_iinc (v := v7) (lv' := [(2, .int v7), (0, .ref (ad 13)), (1, .int a2), (3, .int (48 : Int32))]) hx hb dJ7_fill_53178_14 hl (k := 2) rfl (by rw [ev7]; rfl) (by decide) rfl (fun ls hl => ?_)
        refine lv_goto (tgt := 5) hx hb dJ7_fill_53178_17 (by decide) ?_
        exact ih _ _ _ _ _ (lv_sub hl [1, 2, 0, 3] rfl) hP hD hS hk hF
  refine L5 _ _ _ _ _ _ _ (lv_sub hl [2, 3, 1, 0] rfl) hP hD hS ?_ hF
  clear hF
  intro x3 H locs ls hl hP hD hS hF
  exact hRet _ _ _ _ _ hF dJ7_fill_53178_20 hP hD hS
theorem ky_X3_take : q_Y yX3_take cX3_take 2 none 1 := ⟨cw_X3_take, im_X3_take, se_X3_take, in_X3, by decide +kernel⟩
set_option maxHeartbeats 4000000 in
set_option maxRecDepth 100000 in
theorem c_X3_take (l : Launch) (D : va_G) (cI cJ : ClassId) (g : Nat → Nat) (ad : Nat → Nat) (j : JS) (x : IS) (res : IS) (hF : f_X3_take x = some res) : q_Mv l yX3_take cX3_take 2 { frames := 1, cells := 0, slots := 0, locals := 26 } D cI cJ g (q_WX cI cJ ad x j) [.ref (ad 3), .ref (ad 2)] (q_WX cI cJ ad res j) := by
  refine q_ofv (res := res) (fun u : IS => (q_WX cI cJ ad u j)) pl_X3 (Nat.le_of_ble_eq_true rfl) ?_
  intro p e s m args below meth c A Q hM hRet ls hl hP hD hS
  have hx := hM.1.1
  have hb := hM.1.2.1
  have hl : lv_has ls 2 [(0, .ref (ad 3)), (1, .ref (ad 2))] := hl
  unfold f_X3_take at hF
  refine lv_aload_n hx hb dX3_take_0 rfl (lv_at hl 1 rfl) ?_
  refine qg_X_X5_powers hM hP fl_X3_31 dX3_take_1 ?_
  refine lv_iconst (v := 0) hx hb dX3_take_4 (by decide) ?_
  refine lv_aload_n hx hb dX3_take_5 rfl (lv_at hl 0 rfl) ?_
  refine qg_X_X3_powers hM hP fl_X3_9 dX3_take_6 ?_
  refine lv_iconst (v := 0) hx hb dX3_take_9 (by decide) ?_
  refine lv_bipush (v := 48) hx hb dX3_take_10 (by decide) ?_
  refine qc_X5_powers_X3_powers hM hP hD hS ml_X3_34 (by decide) hl.1 ⟨Nat.le_of_ble_eq_true rfl, Nat.le_of_ble_eq_true rfl⟩ dX3_take_12 (fun x1 H locs ex1 hP hD hS => ?_)
  have hF := q_let_e hF ex1
  refine lv_aload_n hx hb dX3_take_15 rfl (lv_at hl 1 rfl) ?_
  refine qg_X_X5_look hM hP fl_X3_40 dX3_take_16 ?_
  refine lv_iconst (v := 0) hx hb dX3_take_19 (by decide) ?_
  refine lv_aload_n hx hb dX3_take_20 rfl (lv_at hl 0 rfl) ?_
  refine qg_X_X3_look hM hP fl_X3_21 dX3_take_21 ?_
  refine lv_iconst (v := 0) hx hb dX3_take_24 (by decide) ?_
  refine lv_aload_n hx hb dX3_take_25 rfl (lv_at hl 0 rfl) ?_
  refine qg_X_X3_look hM hP fl_X3_21 dX3_take_26 ?_
  refine qn_X_X3_look hM hP dX3_take_29 ?_
  refine qc_X5_look_X3_look hM hP hD hS ml_X3_34 (by decide) hl.1 ⟨Nat.le_of_ble_eq_true rfl, Nat.le_of_ble_eq_true rfl⟩ dX3_take_30 (fun x2 H locs ex2 hP hD hS => ?_)
  have hF := q_let_e hF ex2
  refine lv_aload_n hx hb dX3_take_33 rfl (lv_at hl 0 rfl) ?_
  refine qg_X_X3_left hM hP fl_X3_15 dX3_take_34 ?_
  refine lv_iconst (v := 0) hx hb dX3_take_37 (by decide) ?_
  obtain ⟨x3, hC4, hF⟩ := q_b1_e hF
  refine q_callvS hM (c_J7_fill_53178__X3_left l D cI cJ g ad j _ _ _ hC4) hP hD hS ky_J7_fill_53178__X3_left ml_X3_41 rfl rfl ⟨Nat.le_of_ble_eq_true rfl, Nat.le_of_ble_eq_true rfl⟩ rfl hl.1 rfl (Nat.le_of_ble_eq_true rfl) ⟨Nat.zero_le _, Nat.zero_le _⟩ dX3_take_38 (fun H locs hP hD hS => ?_)
  refine lv_aload_n hx hb dX3_take_41 rfl (lv_at hl 0 rfl) ?_
  refine lv_aload_n hx hb dX3_take_42 rfl (lv_at hl 1 rfl) ?_
  refine qg_X_X5_size hM hP fl_X3_47 dX3_take_43 ?_
  refine qp_X_X3_size hM hP hD hS fl_X3_27 dX3_take_46 (fun x5 H locs ex5 hP hD hS => ?_)
  have hF := q_let_e hF ex5
  refine lv_aload_n hx hb dX3_take_49 rfl (lv_at hl 0 rfl) ?_
  refine lv_aload_n hx hb dX3_take_50 rfl (lv_at hl 1 rfl) ?_
  refine qg_X_X5_mode hM hP fl_X3_48 dX3_take_51 ?_
  refine qp_X_X3_mode hM hP hD hS fl_X3_51 dX3_take_54 (fun x6 H locs ex6 hP hD hS => ?_)
  have hF := q_let_e hF ex6
  refine lv_aload_n hx hb dX3_take_57 rfl (lv_at hl 0 rfl) ?_
  refine lv_iconst (v := 1) hx hb dX3_take_58 (by decide) ?_
  refine qp_X_X3_changed hM hP hD hS rfl rfl fl_X3_52 dX3_take_59 (fun x7 H locs ex7 hP hD hS => ?_)
  have hF := q_let_e hF ex7
  exact hRet _ _ _ _ _ hF dX3_take_62 hP hD hS
theorem ky_X3_setPower : q_Y yX3_setPower cX3_setPower 3 none 2 := ⟨cw_X3_setPower, im_X3_setPower, se_X3_setPower, in_X3, by decide +kernel⟩
set_option maxHeartbeats 4000000 in
set_option maxRecDepth 100000 in
theorem c_X3_setPower (l : Launch) (D : va_G) (cI cJ : ClassId) (g : Nat → Nat) (ad : Nat → Nat) (j : JS) (x : IS) (a1 : Int32) (a2 : Int32) (res : IS) (hF : f_X3_setPower x a1 a2 = some res) : q_Mv l yX3_setPower cX3_setPower 3 { frames := 1, cells := 0, slots := 0, locals := 21 } D cI cJ g (q_WX cI cJ ad x j) [.ref (ad 3), .int a1, .int a2] (q_WX cI cJ ad res j) := by
  refine q_ofv (res := res) (fun u : IS => (q_WX cI cJ ad u j)) pl_X3 (Nat.le_of_ble_eq_true rfl) ?_
  intro p e s m args below meth c A Q hM hRet ls hl hP hD hS
  have hx := hM.1.1
  have hb := hM.1.2.1
  have hl : lv_has ls 3 [(0, .ref (ad 3)), (1, .int a1), (2, .int a2)] := hl
  unfold f_X3_setPower at hF
  refine lv_aload_n hx hb dX3_setPower_0 rfl (lv_at hl 0 rfl) ?_
  refine lv_iload_n hx hb dX3_setPower_1 rfl (lv_at hl 1 rfl) ?_
  obtain ⟨r1, hC2, hF⟩ := q_b1_e hF
  refine q_calli hM (c_X3_has l D cI cJ g ad j _ _ _ hC2) hP hD hS ky_X3_has ml_X3_56 rfl rfl ⟨Nat.le_of_ble_eq_true rfl, Nat.le_of_ble_eq_true rfl⟩ 3 rfl rfl rfl hl.1 rfl (Nat.le_of_ble_eq_true rfl) ⟨Nat.zero_le _, Nat.zero_le _⟩ dX3_setPower_2 (fun H locs hz3 hP hD hS => ?_)
  refine lv_if_eq (tgt := 20) hx hb dX3_setPower_5 (by decide) (fun c4 => ?_) (fun c4 => ?_)
  · have hF := q_it hF c4
    exact hRet _ _ _ _ _ hF dX3_setPower_20 hP hD hS
  · have hF := q_ie hF c4
    refine lv_aload_n hx hb dX3_setPower_8 rfl (lv_at hl 0 rfl) ?_
    refine qg_X_X3_powers hM hP fl_X3_9 dX3_setPower_9 ?_
    refine lv_iload_n hx hb dX3_setPower_12 rfl (lv_at hl 1 rfl) ?_
    refine lv_iload_n hx hb dX3_setPower_13 rfl (lv_at hl 2 rfl) ?_
    obtain ⟨h5, hF⟩ := q_gd_e hF
    refine qs_X_X3_powers hM hP hD hS h5 dX3_setPower_14 (fun x6 H locs ex6 hP hD hS => ?_)
    have hF := q_let_e hF ex6
    refine lv_aload_n hx hb dX3_setPower_15 rfl (lv_at hl 0 rfl) ?_
    refine lv_iconst (v := 1) hx hb dX3_setPower_16 (by decide) ?_
    refine qp_X_X3_changed hM hP hD hS rfl rfl fl_X3_52 dX3_setPower_17 (fun x7 H locs ex7 hP hD hS => ?_)
    have hF := q_let_e hF ex7
    exact hRet _ _ _ _ _ hF dX3_setPower_20 hP hD hS
theorem ky_X3_setLeft : q_Y yX3_setLeft cX3_setLeft 3 none 2 := ⟨cw_X3_setLeft, im_X3_setLeft, se_X3_setLeft, in_X3, by decide +kernel⟩
set_option maxHeartbeats 4000000 in
set_option maxRecDepth 100000 in
theorem c_X3_setLeft (l : Launch) (D : va_G) (cI cJ : ClassId) (g : Nat → Nat) (ad : Nat → Nat) (j : JS) (x : IS) (a1 : Int32) (a2 : Int32) (res : IS) (hF : f_X3_setLeft x a1 a2 = some res) : q_Mv l yX3_setLeft cX3_setLeft 3 { frames := 1, cells := 0, slots := 0, locals := 21 } D cI cJ g (q_WX cI cJ ad x j) [.ref (ad 3), .int a1, .int a2] (q_WX cI cJ ad res j) := by
  refine q_ofv (res := res) (fun u : IS => (q_WX cI cJ ad u j)) pl_X3 (Nat.le_of_ble_eq_true rfl) ?_
  intro p e s m args below meth c A Q hM hRet ls hl hP hD hS
  have hx := hM.1.1
  have hb := hM.1.2.1
  have hl : lv_has ls 3 [(0, .ref (ad 3)), (1, .int a1), (2, .int a2)] := hl
  unfold f_X3_setLeft at hF
  refine lv_aload_n hx hb dX3_setLeft_0 rfl (lv_at hl 0 rfl) ?_
  refine lv_iload_n hx hb dX3_setLeft_1 rfl (lv_at hl 1 rfl) ?_
  obtain ⟨r1, hC2, hF⟩ := q_b1_e hF
  refine q_calli hM (c_X3_has l D cI cJ g ad j _ _ _ hC2) hP hD hS ky_X3_has ml_X3_56 rfl rfl ⟨Nat.le_of_ble_eq_true rfl, Nat.le_of_ble_eq_true rfl⟩ 3 rfl rfl rfl hl.1 rfl (Nat.le_of_ble_eq_true rfl) ⟨Nat.zero_le _, Nat.zero_le _⟩ dX3_setLeft_2 (fun H locs hz3 hP hD hS => ?_)
  refine lv_if_eq (tgt := 20) hx hb dX3_setLeft_5 (by decide) (fun c4 => ?_) (fun c4 => ?_)
  · have hF := q_it hF c4
    exact hRet _ _ _ _ _ hF dX3_setLeft_20 hP hD hS
  · have hF := q_ie hF c4
    refine lv_aload_n hx hb dX3_setLeft_8 rfl (lv_at hl 0 rfl) ?_
    refine qg_X_X3_left hM hP fl_X3_15 dX3_setLeft_9 ?_
    refine lv_iload_n hx hb dX3_setLeft_12 rfl (lv_at hl 1 rfl) ?_
    refine lv_iload_n hx hb dX3_setLeft_13 rfl (lv_at hl 2 rfl) ?_
    obtain ⟨h5, hF⟩ := q_gd_e hF
    refine qs_X_X3_left hM hP hD hS h5 dX3_setLeft_14 (fun x6 H locs ex6 hP hD hS => ?_)
    have hF := q_let_e hF ex6
    refine lv_aload_n hx hb dX3_setLeft_15 rfl (lv_at hl 0 rfl) ?_
    refine lv_iconst (v := 1) hx hb dX3_setLeft_16 (by decide) ?_
    refine qp_X_X3_changed hM hP hD hS rfl rfl fl_X3_52 dX3_setLeft_17 (fun x7 H locs ex7 hP hD hS => ?_)
    have hF := q_let_e hF ex7
    exact hRet _ _ _ _ _ hF dX3_setLeft_20 hP hD hS
theorem ky_X6_isLook : q_YS yX6_isLook cX6_isLook 2 (some .boolean) 2 := ⟨cw_X6_isLook, st_X6_isLook, in_X6, by decide +kernel⟩
set_option maxHeartbeats 4000000 in
set_option maxRecDepth 100000 in
theorem c_X6_isLook (l : Launch) (D : va_G) (cI cJ : ClassId) (g : Nat → Nat) (w : va_W) (a1 : Int32) (a2 : Int32) (res : Int32) (hF : f_X6_isLook a1 a2 = some res) : q_Mi l yX6_isLook cX6_isLook 2 .boolean { frames := 0, cells := 0, slots := 0, locals := 0 } D cI cJ g w [.int a1, .int a2] (res) w := by
  refine q_ofi (res := res) (fun u : Int32 => u) (fun _ : Int32 => w) pl_X6 (Nat.le_of_ble_eq_true rfl) ?_
  intro p e s m args below meth c A Q hM hRet ls hl hP hD hS
  have hx := hM.1.1
  have hb := hM.1.2.1
  have hl : lv_has ls 2 [(0, .int a1), (1, .int a2)] := hl
  unfold f_X6_isLook at hF
  refine lv_iload_n hx hb dX6_isLook_0 rfl (lv_at hl 0 rfl) ?_
  refine lv_if_lt (tgt := 31) hx hb dX6_isLook_1 (by decide) (fun c1 => ?_) (fun c1 => ?_)
  · have hF := q_it hF c1
    refine lv_iconst (v := 0) hx hb dX6_isLook_31 (by decide) ?_
    exact hRet (0 : Int32) _ _ _ _ hF narrow_b0 dX6_isLook_32 hP hD hS
  · have hF := q_ie hF c1
    refine lv_iload_n hx hb dX6_isLook_4 rfl (lv_at hl 0 rfl) ?_
    refine lv_iconst (v := 4) hx hb dX6_isLook_5 (by decide) ?_
    refine lv_icmp_gt (tgt := 31) hx hb dX6_isLook_6 (by decide) (fun c2 => ?_) (fun c2 => ?_)
    · have hF := q_it hF c2
      refine lv_iconst (v := 0) hx hb dX6_isLook_31 (by decide) ?_
      exact hRet (0 : Int32) _ _ _ _ hF narrow_b0 dX6_isLook_32 hP hD hS
    · have hF := q_ie hF c2
      refine lv_iload_n hx hb dX6_isLook_9 rfl (lv_at hl 1 rfl) ?_
      refine qgs_LOOK_LEAST hM hS fl_X6_225 dX6_isLook_10 ?_
      refine lv_iload_n hx hb dX6_isLook_13 rfl (lv_at hl 0 rfl) ?_
      obtain ⟨h3, hF⟩ := q_gd_e hF
      refine qls_LOOK_LEAST hM hS h3 dX6_isLook_14 ?_
      refine lv_icmp_lt (tgt := 31) hx hb dX6_isLook_15 (by decide) (fun c4 => ?_) (fun c4 => ?_)
      · have hF := q_it hF c4
        refine lv_iconst (v := 0) hx hb dX6_isLook_31 (by decide) ?_
        exact hRet (0 : Int32) _ _ _ _ hF narrow_b0 dX6_isLook_32 hP hD hS
      · have hF := q_ie hF c4
        refine lv_iload_n hx hb dX6_isLook_18 rfl (lv_at hl 1 rfl) ?_
        refine qgs_LOOK_MOST hM hS fl_X6_228 dX6_isLook_19 ?_
        refine lv_iload_n hx hb dX6_isLook_22 rfl (lv_at hl 0 rfl) ?_
        obtain ⟨h5, hF⟩ := q_gd_e hF
        refine qls_LOOK_MOST hM hS h5 dX6_isLook_23 ?_
        refine lv_icmp_gt (tgt := 31) hx hb dX6_isLook_24 (by decide) (fun c6 => ?_) (fun c6 => ?_)
        · have hF := q_it hF c6
          refine lv_iconst (v := 0) hx hb dX6_isLook_31 (by decide) ?_
          exact hRet (0 : Int32) _ _ _ _ hF narrow_b0 dX6_isLook_32 hP hD hS
        · have hF := q_ie hF c6
          refine lv_iconst (v := 1) hx hb dX6_isLook_27 (by decide) ?_
          refine lv_goto (tgt := 32) hx hb dX6_isLook_28 (by decide) ?_
          exact hRet (1 : Int32) _ _ _ _ hF narrow_b1 dX6_isLook_32 hP hD hS
theorem ky_X3_setLook : q_Y yX3_setLook cX3_setLook 3 none 2 := ⟨cw_X3_setLook, im_X3_setLook, se_X3_setLook, in_X3, by decide +kernel⟩
set_option maxHeartbeats 4000000 in
set_option maxRecDepth 100000 in
theorem c_X3_setLook (l : Launch) (D : va_G) (cI cJ : ClassId) (g : Nat → Nat) (ad : Nat → Nat) (j : JS) (x : IS) (a1 : Int32) (a2 : Int32) (res : IS) (hF : f_X3_setLook x a1 a2 = some res) : q_Mv l yX3_setLook cX3_setLook 3 { frames := 1, cells := 0, slots := 0, locals := 21 } D cI cJ g (q_WX cI cJ ad x j) [.ref (ad 3), .int a1, .int a2] (q_WX cI cJ ad res j) := by
  refine q_ofv (res := res) (fun u : IS => (q_WX cI cJ ad u j)) pl_X3 (Nat.le_of_ble_eq_true rfl) ?_
  intro p e s m args below meth c A Q hM hRet ls hl hP hD hS
  have hx := hM.1.1
  have hb := hM.1.2.1
  have hl : lv_has ls 3 [(0, .ref (ad 3)), (1, .int a1), (2, .int a2)] := hl
  unfold f_X3_setLook at hF
  refine lv_iload_n hx hb dX3_setLook_0 rfl (lv_at hl 1 rfl) ?_
  refine lv_iload_n hx hb dX3_setLook_1 rfl (lv_at hl 2 rfl) ?_
  obtain ⟨r1, hC2, hF⟩ := q_b1_e hF
  refine q_calliSN hM (c_X6_isLook l D cI cJ g (q_WX cI cJ ad x j) _ _ _ hC2) hP hD hS ky_X6_isLook hM.2.2.2.1.1 rfl rfl ⟨Nat.le_of_ble_eq_true rfl, Nat.le_of_ble_eq_true rfl⟩ rfl hl.1 rfl (Nat.le_of_ble_eq_true rfl) ⟨Nat.zero_le _, Nat.zero_le _⟩ dX3_setLook_2 (fun H locs hz3 hP hD hS => ?_)
  refine lv_if_eq (tgt := 20) hx hb dX3_setLook_5 (by decide) (fun c4 => ?_) (fun c4 => ?_)
  · have hF := q_it hF c4
    exact hRet _ _ _ _ _ hF dX3_setLook_20 hP hD hS
  · have hF := q_ie hF c4
    refine lv_aload_n hx hb dX3_setLook_8 rfl (lv_at hl 0 rfl) ?_
    refine qg_X_X3_look hM hP fl_X3_21 dX3_setLook_9 ?_
    refine lv_iload_n hx hb dX3_setLook_12 rfl (lv_at hl 1 rfl) ?_
    refine lv_iload_n hx hb dX3_setLook_13 rfl (lv_at hl 2 rfl) ?_
    obtain ⟨h5, hF⟩ := q_gd_e hF
    refine qs_X_X3_look hM hP hD hS h5 dX3_setLook_14 (fun x6 H locs ex6 hP hD hS => ?_)
    have hF := q_let_e hF ex6
    refine lv_aload_n hx hb dX3_setLook_15 rfl (lv_at hl 0 rfl) ?_
    refine lv_iconst (v := 1) hx hb dX3_setLook_16 (by decide) ?_
    refine qp_X_X3_changed hM hP hD hS rfl rfl fl_X3_52 dX3_setLook_17 (fun x7 H locs ex7 hP hD hS => ?_)
    have hF := q_let_e hF ex7
    exact hRet _ _ _ _ _ hF dX3_setLook_20 hP hD hS
theorem ky_X3_setMode : q_Y yX3_setMode cX3_setMode 2 none 1 := ⟨cw_X3_setMode, im_X3_setMode, se_X3_setMode, in_X3, by decide +kernel⟩
set_option maxHeartbeats 4000000 in
set_option maxRecDepth 100000 in
theorem c_X3_setMode (l : Launch) (D : va_G) (cI cJ : ClassId) (g : Nat → Nat) (ad : Nat → Nat) (j : JS) (x : IS) (a1 : Int32) (res : IS) (hF : f_X3_setMode x a1 = some res) : q_Mv l yX3_setMode cX3_setMode 2 { frames := 0, cells := 0, slots := 0, locals := 0 } D cI cJ g (q_WX cI cJ ad x j) [.ref (ad 3), .int a1] (q_WX cI cJ ad res j) := by
  refine q_ofv (res := res) (fun u : IS => (q_WX cI cJ ad u j)) pl_X3 (Nat.le_of_ble_eq_true rfl) ?_
  intro p e s m args below meth c A Q hM hRet ls hl hP hD hS
  have hx := hM.1.1
  have hb := hM.1.2.1
  have hl : lv_has ls 2 [(0, .ref (ad 3)), (1, .int a1)] := hl
  unfold f_X3_setMode at hF
  refine lv_aload_n hx hb dX3_setMode_0 rfl (lv_at hl 0 rfl) ?_
  refine lv_iload_n hx hb dX3_setMode_1 rfl (lv_at hl 1 rfl) ?_
  refine qp_X_X3_mode hM hP hD hS fl_X3_51 dX3_setMode_2 (fun x1 H locs ex1 hP hD hS => ?_)
  have hF := q_let_e hF ex1
  refine lv_aload_n hx hb dX3_setMode_5 rfl (lv_at hl 0 rfl) ?_
  refine lv_iconst (v := 1) hx hb dX3_setMode_6 (by decide) ?_
  refine qp_X_X3_changed hM hP hD hS rfl rfl fl_X3_52 dX3_setMode_7 (fun x2 H locs ex2 hP hD hS => ?_)
  have hF := q_let_e hF ex2
  exact hRet _ _ _ _ _ hF dX3_setMode_10 hP hD hS
theorem ky_X3_slideOn : q_Y yX3_slideOn cX3_slideOn 3 none 1 := ⟨cw_X3_slideOn, im_X3_slideOn, se_X3_slideOn, in_X3, by decide +kernel⟩
set_option maxHeartbeats 4000000 in
set_option maxRecDepth 100000 in
theorem c_X3_slideOn (l : Launch) (D : va_G) (cI cJ : ClassId) (g : Nat → Nat) (ad : Nat → Nat) (j : JS) (x : IS) (a1 : Int32) (res : IS) (hF : f_X3_slideOn x a1 = some res) : q_Mv l yX3_slideOn cX3_slideOn 3 { frames := 1, cells := 0, slots := 0, locals := 26 } D cI cJ g (q_WX cI cJ ad x j) [.ref (ad 3), .int a1] (q_WX cI cJ ad res j) := by
  refine q_ofv (res := res) (fun u : IS => (q_WX cI cJ ad u j)) pl_X3 (Nat.le_of_ble_eq_true rfl) ?_
  intro p e s m args below meth c A Q hM hRet ls hl hP hD hS
  have hx := hM.1.1
  have hb := hM.1.2.1
  have hl : lv_has ls 3 [(0, .ref (ad 3)), (1, .int a1)] := hl
  unfold f_X3_slideOn at hF
  refine lv_aload_n hx hb dX3_slideOn_0 rfl (lv_at hl 0 rfl) ?_
  refine qg_X_X3_size hM hP fl_X3_27 dX3_slideOn_1 ?_
  refine lv_iconst (v := 1) hx hb dX3_slideOn_4 (by decide) ?_
  refine lv_isub hx hb dX3_slideOn_5 ?_
  refine lv_topi (fun v1 ev1 => ?_)
  have hF := q_let_e hF ev1
  refine lv_istore_n (lv' := [(2, .int v1), (0, .ref (ad 3)), (1, .int a1)]) hx hb dX3_slideOn_6 rfl hl (by decide) rfl (fun ls hl => ?_)
  refine lv_aload_n hx hb dX3_slideOn_7 rfl (lv_at hl 1 rfl) ?_
  refine lv_iload_n hx hb dX3_slideOn_8 rfl (lv_at hl 0 rfl) ?_
  obtain ⟨r2, hC3, hF⟩ := q_b1_e hF
  refine q_calli hM (c_X3_has l D cI cJ g ad j _ _ _ hC3) hP hD hS ky_X3_has ml_X3_56 rfl rfl ⟨Nat.le_of_ble_eq_true rfl, Nat.le_of_ble_eq_true rfl⟩ 3 rfl rfl rfl hl.1 rfl (Nat.le_of_ble_eq_true rfl) ⟨Nat.zero_le _, Nat.zero_le _⟩ dX3_slideOn_9 (fun H locs hz4 hP hD hS => ?_)
  refine lv_if_eq (tgt := 62) hx hb dX3_slideOn_12 (by decide) (fun c5 => ?_) (fun c5 => ?_)
  · have hF := q_it hF c5
    exact hRet _ _ _ _ _ hF dX3_slideOn_62 hP hD hS
  · have hF := q_ie hF c5
    refine lv_aload_n hx hb dX3_slideOn_15 rfl (lv_at hl 1 rfl) ?_
    refine qg_X_X3_powers hM hP fl_X3_9 dX3_slideOn_16 ?_
    refine lv_iconst (v := 1) hx hb dX3_slideOn_19 (by decide) ?_
    refine lv_aload_n hx hb dX3_slideOn_20 rfl (lv_at hl 1 rfl) ?_
    refine qg_X_X3_powers hM hP fl_X3_9 dX3_slideOn_21 ?_
    refine lv_iconst (v := 0) hx hb dX3_slideOn_24 (by decide) ?_
    refine lv_iload_n hx hb dX3_slideOn_25 rfl (lv_at hl 0 rfl) ?_
    obtain ⟨h7, hF⟩ := q_gd_e hF
    refine qc_X3_powers_X3_powers hM hP hD hS ml_X3_34 h7 hl.1 ⟨Nat.le_of_ble_eq_true rfl, Nat.le_of_ble_eq_true rfl⟩ dX3_slideOn_26 (fun x6 H locs ex6 hP hD hS => ?_)
    have hF := q_let_e hF ex6
    refine lv_aload_n hx hb dX3_slideOn_29 rfl (lv_at hl 1 rfl) ?_
    refine qg_X_X3_left hM hP fl_X3_15 dX3_slideOn_30 ?_
    refine lv_iconst (v := 1) hx hb dX3_slideOn_33 (by decide) ?_
    refine lv_aload_n hx hb dX3_slideOn_34 rfl (lv_at hl 1 rfl) ?_
    refine qg_X_X3_left hM hP fl_X3_15 dX3_slideOn_35 ?_
    refine lv_iconst (v := 0) hx hb dX3_slideOn_38 (by decide) ?_
    refine lv_iload_n hx hb dX3_slideOn_39 rfl (lv_at hl 0 rfl) ?_
    obtain ⟨h9, hF⟩ := q_gd_e hF
    refine qc_X3_left_X3_left hM hP hD hS ml_X3_34 h9 hl.1 ⟨Nat.le_of_ble_eq_true rfl, Nat.le_of_ble_eq_true rfl⟩ dX3_slideOn_40 (fun x8 H locs ex8 hP hD hS => ?_)
    have hF := q_let_e hF ex8
    refine lv_aload_n hx hb dX3_slideOn_43 rfl (lv_at hl 1 rfl) ?_
    refine qg_X_X3_powers hM hP fl_X3_9 dX3_slideOn_44 ?_
    refine lv_iload_n hx hb dX3_slideOn_47 rfl (lv_at hl 0 rfl) ?_
    refine lv_iload_n hx hb dX3_slideOn_48 rfl (lv_at hl 2 rfl) ?_
    obtain ⟨h10, hF⟩ := q_gd_e hF
    refine qs_X_X3_powers hM hP hD hS h10 dX3_slideOn_49 (fun x11 H locs ex11 hP hD hS => ?_)
    have hF := q_let_e hF ex11
    refine lv_aload_n hx hb dX3_slideOn_50 rfl (lv_at hl 1 rfl) ?_
    refine qg_X_X3_left hM hP fl_X3_15 dX3_slideOn_51 ?_
    refine lv_iload_n hx hb dX3_slideOn_54 rfl (lv_at hl 0 rfl) ?_
    refine lv_iconst (v := 0) hx hb dX3_slideOn_55 (by decide) ?_
    obtain ⟨h12, hF⟩ := q_gd_e hF
    refine qs_X_X3_left hM hP hD hS h12 dX3_slideOn_56 (fun x13 H locs ex13 hP hD hS => ?_)
    have hF := q_let_e hF ex13
    refine lv_aload_n hx hb dX3_slideOn_57 rfl (lv_at hl 1 rfl) ?_
    refine lv_iconst (v := 1) hx hb dX3_slideOn_58 (by decide) ?_
    refine qp_X_X3_changed hM hP hD hS rfl rfl fl_X3_52 dX3_slideOn_59 (fun x14 H locs ex14 hP hD hS => ?_)
    have hF := q_let_e hF ex14
    exact hRet _ _ _ _ _ hF dX3_slideOn_62 hP hD hS
theorem ky_X3_slideBack : q_Y yX3_slideBack cX3_slideBack 4 none 2 := ⟨cw_X3_slideBack, im_X3_slideBack, se_X3_slideBack, in_X3, by decide +kernel⟩
set_option maxHeartbeats 4000000 in
set_option maxRecDepth 100000 in
theorem c_X3_slideBack (l : Launch) (D : va_G) (cI cJ : ClassId) (g : Nat → Nat) (ad : Nat → Nat) (j : JS) (x : IS) (a1 : Int32) (a2 : Int32) (res : IS) (hF : f_X3_slideBack x a1 a2 = some res) : q_Mv l yX3_slideBack cX3_slideBack 4 { frames := 1, cells := 0, slots := 0, locals := 26 } D cI cJ g (q_WX cI cJ ad x j) [.ref (ad 3), .int a1, .int a2] (q_WX cI cJ ad res j) := by
  refine q_ofv (res := res) (fun u : IS => (q_WX cI cJ ad u j)) pl_X3 (Nat.le_of_ble_eq_true rfl) ?_
  intro p e s m args below meth c A Q hM hRet ls hl hP hD hS
  have hx := hM.1.1
  have hb := hM.1.2.1
  have hl : lv_has ls 4 [(0, .ref (ad 3)), (1, .int a1), (2, .int a2)] := hl
  unfold f_X3_slideBack at hF
  refine lv_aload_n hx hb dX3_slideBack_0 rfl (lv_at hl 0 rfl) ?_
  refine qg_X_X3_size hM hP fl_X3_27 dX3_slideBack_1 ?_
  refine lv_iconst (v := 1) hx hb dX3_slideBack_4 (by decide) ?_
  refine lv_isub hx hb dX3_slideBack_5 ?_
  refine lv_topi (fun v1 ev1 => ?_)
  have hF := q_let_e hF ev1
  refine lv_istore_n (lv' := [(3, .int v1), (0, .ref (ad 3)), (1, .int a1), (2, .int a2)]) hx hb dX3_slideBack_6 rfl hl (by decide) rfl (fun ls hl => ?_)
  refine lv_aload_n hx hb dX3_slideBack_7 rfl (lv_at hl 1 rfl) ?_
  refine lv_iload_n hx hb dX3_slideBack_8 rfl (lv_at hl 0 rfl) ?_
  obtain ⟨r2, hC3, hF⟩ := q_b1_e hF
  refine q_calli hM (c_X3_has l D cI cJ g ad j _ _ _ hC3) hP hD hS ky_X3_has ml_X3_56 rfl rfl ⟨Nat.le_of_ble_eq_true rfl, Nat.le_of_ble_eq_true rfl⟩ 3 rfl rfl rfl hl.1 rfl (Nat.le_of_ble_eq_true rfl) ⟨Nat.zero_le _, Nat.zero_le _⟩ dX3_slideBack_9 (fun H locs hz4 hP hD hS => ?_)
  refine lv_if_eq (tgt := 62) hx hb dX3_slideBack_12 (by decide) (fun c5 => ?_) (fun c5 => ?_)
  · have hF := q_it hF c5
    exact hRet _ _ _ _ _ hF dX3_slideBack_62 hP hD hS
  · have hF := q_ie hF c5
    refine lv_aload_n hx hb dX3_slideBack_15 rfl (lv_at hl 1 rfl) ?_
    refine qg_X_X3_powers hM hP fl_X3_9 dX3_slideBack_16 ?_
    refine lv_iconst (v := 0) hx hb dX3_slideBack_19 (by decide) ?_
    refine lv_aload_n hx hb dX3_slideBack_20 rfl (lv_at hl 1 rfl) ?_
    refine qg_X_X3_powers hM hP fl_X3_9 dX3_slideBack_21 ?_
    refine lv_iconst (v := 1) hx hb dX3_slideBack_24 (by decide) ?_
    refine lv_iload_n hx hb dX3_slideBack_25 rfl (lv_at hl 0 rfl) ?_
    obtain ⟨h7, hF⟩ := q_gd_e hF
    refine qc_X3_powers_X3_powers hM hP hD hS ml_X3_34 h7 hl.1 ⟨Nat.le_of_ble_eq_true rfl, Nat.le_of_ble_eq_true rfl⟩ dX3_slideBack_26 (fun x6 H locs ex6 hP hD hS => ?_)
    have hF := q_let_e hF ex6
    refine lv_aload_n hx hb dX3_slideBack_29 rfl (lv_at hl 1 rfl) ?_
    refine qg_X_X3_left hM hP fl_X3_15 dX3_slideBack_30 ?_
    refine lv_iconst (v := 0) hx hb dX3_slideBack_33 (by decide) ?_
    refine lv_aload_n hx hb dX3_slideBack_34 rfl (lv_at hl 1 rfl) ?_
    refine qg_X_X3_left hM hP fl_X3_15 dX3_slideBack_35 ?_
    refine lv_iconst (v := 1) hx hb dX3_slideBack_38 (by decide) ?_
    refine lv_iload_n hx hb dX3_slideBack_39 rfl (lv_at hl 0 rfl) ?_
    obtain ⟨h9, hF⟩ := q_gd_e hF
    refine qc_X3_left_X3_left hM hP hD hS ml_X3_34 h9 hl.1 ⟨Nat.le_of_ble_eq_true rfl, Nat.le_of_ble_eq_true rfl⟩ dX3_slideBack_40 (fun x8 H locs ex8 hP hD hS => ?_)
    have hF := q_let_e hF ex8
    refine lv_aload_n hx hb dX3_slideBack_43 rfl (lv_at hl 1 rfl) ?_
    refine qg_X_X3_powers hM hP fl_X3_9 dX3_slideBack_44 ?_
    refine lv_iconst (v := 0) hx hb dX3_slideBack_47 (by decide) ?_
    refine lv_iload_n hx hb dX3_slideBack_48 rfl (lv_at hl 2 rfl) ?_
    refine qs_X_X3_powers hM hP hD hS (by decide) dX3_slideBack_49 (fun x10 H locs ex10 hP hD hS => ?_)
    have hF := q_let_e hF ex10
    refine lv_aload_n hx hb dX3_slideBack_50 rfl (lv_at hl 1 rfl) ?_
    refine qg_X_X3_left hM hP fl_X3_15 dX3_slideBack_51 ?_
    refine lv_iconst (v := 0) hx hb dX3_slideBack_54 (by decide) ?_
    refine lv_iload_n hx hb dX3_slideBack_55 rfl (lv_at hl 3 rfl) ?_
    refine qs_X_X3_left hM hP hD hS (by decide) dX3_slideBack_56 (fun x11 H locs ex11 hP hD hS => ?_)
    have hF := q_let_e hF ex11
    refine lv_aload_n hx hb dX3_slideBack_57 rfl (lv_at hl 1 rfl) ?_
    refine lv_iconst (v := 1) hx hb dX3_slideBack_58 (by decide) ?_
    refine qp_X_X3_changed hM hP hD hS rfl rfl fl_X3_52 dX3_slideBack_59 (fun x12 H locs ex12 hP hD hS => ?_)
    have hF := q_let_e hF ex12
    exact hRet _ _ _ _ _ hF dX3_slideBack_62 hP hD hS
theorem ky_X3_takeBack : q_Y yX3_takeBack cX3_takeBack 4 none 3 := ⟨cw_X3_takeBack, im_X3_takeBack, se_X3_takeBack, in_X3, by decide +kernel⟩
set_option maxHeartbeats 4000000 in
set_option maxRecDepth 100000 in
theorem c_X3_takeBack (l : Launch) (D : va_G) (cI cJ : ClassId) (g : Nat → Nat) (ad : Nat → Nat) (j : JS) (x : IS) (a1 : Int32) (a2 : Int32) (a3 : Int32) (res : IS) (hF : f_X3_takeBack x a1 a2 a3 = some res) : q_Mv l yX3_takeBack cX3_takeBack 4 { frames := 2, cells := 0, slots := 0, locals := 49 } D cI cJ g (q_WX cI cJ ad x j) [.ref (ad 3), .int a1, .int a2, .int a3] (q_WX cI cJ ad res j) := by
  refine q_ofv (res := res) (fun u : IS => (q_WX cI cJ ad u j)) pl_X3 (Nat.le_of_ble_eq_true rfl) ?_
  intro p e s m args below meth c A Q hM hRet ls hl hP hD hS
  have hx := hM.1.1
  have hb := hM.1.2.1
  have hl : lv_has ls 4 [(0, .ref (ad 3)), (1, .int a1), (2, .int a2), (3, .int a3)] := hl
  unfold f_X3_takeBack at hF
  refine lv_iload_n hx hb dX3_takeBack_0 rfl (lv_at hl 1 rfl) ?_
  by_cases c3 : a1 = 0
  · have hF := q_it hF c3
    refine lv_tableIn (off := 31) (tgt := 32) hx hb dX3_takeBack_1 (by rw [c3]; decide) (by rw [c3]; decide) (by rw [c3]; rfl) (by decide) ?_
    refine lv_aload_n hx hb dX3_takeBack_32 rfl (lv_at hl 0 rfl) ?_
    refine lv_iload_n hx hb dX3_takeBack_33 rfl (lv_at hl 2 rfl) ?_
    refine lv_iload_n hx hb dX3_takeBack_34 rfl (lv_at hl 3 rfl) ?_
    obtain ⟨x13, hC14, hF⟩ := q_b1_e hF
    refine q_callv hM (c_X3_setPower l D cI cJ g ad j _ _ _ _ hC14) hP hD hS ky_X3_setPower ml_X3_64 rfl rfl ⟨Nat.le_of_ble_eq_true rfl, Nat.le_of_ble_eq_true rfl⟩ 3 rfl rfl rfl hl.1 rfl (Nat.le_of_ble_eq_true rfl) ⟨Nat.zero_le _, Nat.zero_le _⟩ dX3_takeBack_35 (fun H locs hP hD hS => ?_)
    refine lv_goto (tgt := 73) hx hb dX3_takeBack_38 (by decide) ?_
    exact hRet _ _ _ _ _ hF dX3_takeBack_73 hP hD hS
  · have hF := q_ie hF c3
    by_cases c4 : a1 = 1
    · have hF := q_it hF c4
      refine lv_tableIn (off := 40) (tgt := 41) hx hb dX3_takeBack_1 (by rw [c4]; decide) (by rw [c4]; decide) (by rw [c4]; rfl) (by decide) ?_
      refine lv_aload_n hx hb dX3_takeBack_41 rfl (lv_at hl 0 rfl) ?_
      refine lv_iload_n hx hb dX3_takeBack_42 rfl (lv_at hl 2 rfl) ?_
      refine lv_iload_n hx hb dX3_takeBack_43 rfl (lv_at hl 3 rfl) ?_
      obtain ⟨x11, hC12, hF⟩ := q_b1_e hF
      refine q_callv hM (c_X3_setLeft l D cI cJ g ad j _ _ _ _ hC12) hP hD hS ky_X3_setLeft ml_X3_68 rfl rfl ⟨Nat.le_of_ble_eq_true rfl, Nat.le_of_ble_eq_true rfl⟩ 3 rfl rfl rfl hl.1 rfl (Nat.le_of_ble_eq_true rfl) ⟨Nat.zero_le _, Nat.zero_le _⟩ dX3_takeBack_44 (fun H locs hP hD hS => ?_)
      refine lv_goto (tgt := 73) hx hb dX3_takeBack_47 (by decide) ?_
      exact hRet _ _ _ _ _ hF dX3_takeBack_73 hP hD hS
    · have hF := q_ie hF c4
      by_cases c5 : a1 = 2
      · have hF := q_it hF c5
        refine lv_tableIn (off := 49) (tgt := 50) hx hb dX3_takeBack_1 (by rw [c5]; decide) (by rw [c5]; decide) (by rw [c5]; rfl) (by decide) ?_
        refine lv_aload_n hx hb dX3_takeBack_50 rfl (lv_at hl 0 rfl) ?_
        refine lv_iload_n hx hb dX3_takeBack_51 rfl (lv_at hl 2 rfl) ?_
        refine lv_iload_n hx hb dX3_takeBack_52 rfl (lv_at hl 3 rfl) ?_
        obtain ⟨x9, hC10, hF⟩ := q_b1_e hF
        refine q_callv hM (c_X3_setLook l D cI cJ g ad j _ _ _ _ hC10) hP hD hS ky_X3_setLook ml_X3_71 rfl rfl ⟨Nat.le_of_ble_eq_true rfl, Nat.le_of_ble_eq_true rfl⟩ 3 rfl rfl rfl hl.1 rfl (Nat.le_of_ble_eq_true rfl) ⟨Nat.zero_le _, Nat.zero_le _⟩ dX3_takeBack_53 (fun H locs hP hD hS => ?_)
        refine lv_goto (tgt := 73) hx hb dX3_takeBack_56 (by decide) ?_
        exact hRet _ _ _ _ _ hF dX3_takeBack_73 hP hD hS
      · have hF := q_ie hF c5
        by_cases c6 : a1 = 3
        · have hF := q_it hF c6
          refine lv_tableIn (off := 58) (tgt := 59) hx hb dX3_takeBack_1 (by rw [c6]; decide) (by rw [c6]; decide) (by rw [c6]; rfl) (by decide) ?_
          refine lv_aload_n hx hb dX3_takeBack_59 rfl (lv_at hl 0 rfl) ?_
          refine lv_iload_n hx hb dX3_takeBack_60 rfl (lv_at hl 3 rfl) ?_
          obtain ⟨x7, hC8, hF⟩ := q_b1_e hF
          refine q_callv hM (c_X3_setMode l D cI cJ g ad j _ _ _ hC8) hP hD hS ky_X3_setMode ml_X3_74 rfl rfl ⟨Nat.le_of_ble_eq_true rfl, Nat.le_of_ble_eq_true rfl⟩ 3 rfl rfl rfl hl.1 rfl (Nat.le_of_ble_eq_true rfl) ⟨Nat.zero_le _, Nat.zero_le _⟩ dX3_takeBack_61 (fun H locs hP hD hS => ?_)
          refine lv_goto (tgt := 73) hx hb dX3_takeBack_64 (by decide) ?_
          exact hRet _ _ _ _ _ hF dX3_takeBack_73 hP hD hS
        · have hF := q_ie hF c6
          refine lv_tableOut (tgt := 67) hx hb dX3_takeBack_1 (by have z0 := q_ne c3; have z1 := q_ne c4; have z2 := q_ne c5; have z3 := q_ne c6; have y0 : (a1).toInt < 0 ∨ 3 < (a1).toInt := (by rw [show (0 : Int32).toInt = 0 from rfl] at z0; rw [show (1 : Int32).toInt = 1 from rfl] at z1; rw [show (2 : Int32).toInt = 2 from rfl] at z2; rw [show (3 : Int32).toInt = 3 from rfl] at z3; omega); exact y0) (by decide) ?_
          refine lv_aload_n hx hb dX3_takeBack_67 rfl (lv_at hl 0 rfl) ?_
          refine lv_iload_n hx hb dX3_takeBack_68 rfl (lv_at hl 3 rfl) ?_
          refine lv_iload_n hx hb dX3_takeBack_69 rfl (lv_at hl 2 rfl) ?_
          obtain ⟨x1, hC2, hF⟩ := q_b1_e hF
          refine q_callv hM (c_X3_slideBack l D cI cJ g ad j _ _ _ _ hC2) hP hD hS ky_X3_slideBack ml_X3_78 rfl rfl ⟨Nat.le_of_ble_eq_true rfl, Nat.le_of_ble_eq_true rfl⟩ 3 rfl rfl rfl hl.1 rfl (Nat.le_of_ble_eq_true rfl) ⟨Nat.zero_le _, Nat.zero_le _⟩ dX3_takeBack_70 (fun H locs hP hD hS => ?_)
          exact hRet _ _ _ _ _ hF dX3_takeBack_73 hP hD hS
theorem ky_X3_howManyLeft : q_Y yX3_howManyLeft cX3_howManyLeft 3 (some .int) 0 := ⟨cw_X3_howManyLeft, im_X3_howManyLeft, se_X3_howManyLeft, in_X3, by decide +kernel⟩
set_option maxHeartbeats 4000000 in
set_option maxRecDepth 100000 in
theorem c_X3_howManyLeft (l : Launch) (D : va_G) (cI cJ : ClassId) (g : Nat → Nat) (ad : Nat → Nat) (j : JS) (x : IS) (res : Int32) (hF : f_X3_howManyLeft x = some res) : q_Mi l yX3_howManyLeft cX3_howManyLeft 3 .int { frames := 0, cells := 0, slots := 0, locals := 0 } D cI cJ g (q_WX cI cJ ad x j) [.ref (ad 3)] (res) (q_WX cI cJ ad x j) := by
  refine q_ofi (res := res) (fun u : Int32 => u) (fun _ : Int32 => (q_WX cI cJ ad x j)) pl_X3 (Nat.le_of_ble_eq_true rfl) ?_
  intro p e s m args below meth c A Q hM hRet ls hl hP hD hS
  have hx := hM.1.1
  have hb := hM.1.2.1
  have hl : lv_has ls 3 [(0, .ref (ad 3))] := hl
  unfold f_X3_howManyLeft at hF
  refine lv_iconst (v := 0) hx hb dX3_howManyLeft_0 (by decide) ?_
  refine lv_istore_n (lv' := [(1, .int (0 : Int32)), (0, .ref (ad 3))]) hx hb dX3_howManyLeft_1 rfl hl (by decide) rfl (fun ls hl => ?_)
  refine lv_iconst (v := 0) hx hb dX3_howManyLeft_2 (by decide) ?_
  refine lv_istore_n (lv' := [(2, .int (0 : Int32)), (1, .int (0 : Int32)), (0, .ref (ad 3))]) hx hb dX3_howManyLeft_3 rfl hl (by decide) rfl (fun ls hl => ?_)
  have L4 : ∀ (k : Int32 → Option (Int32)) (n : Nat) (v1 : Int32) (v2 : Int32) (H : Heap) (locs : List Loc) (ls : Array Slot), lv_has ls 3 [(0, .ref (ad 3)), (1, .int v1), (2, .int v2)] → va_P D vwCl (q_WX cI cJ ad x j) H → va_D A (q_WX cI cJ ad x j) → va_S A s.heap H locs → (∀ (e3 : Int32) (H : Heap) (locs : List Loc) (ls : Array Slot), lv_has ls 3 [(1, .int e3)] → va_P D vwCl (q_WX cI cJ ad x j) H → va_D A (q_WX cI cJ ad x j) → va_S A s.heap H locs → k e3 = some res → W p l e { frames := 0, cells := 0, slots := 0, locals := 0 } s m args below meth c H locs 0 0 Q (F0 m 33 ls [])) → f_X3_howManyLeft_L4 x k n v1 v2 = some res → W p l e { frames := 0, cells := 0, slots := 0, locals := 0 } s m args below meth c H locs 0 0 Q (F0 m 4 ls []) := by
    intro k n
    induction n with
    | zero => intro v1 v2 H locs ls hl hP hD hS hk hF; exact q_no hF
    | succ n ih =>
      intro v1 v2 H locs ls hl hP hD hS hk hF
      have hF : f_X3_howManyLeft_L4F x k (f_X3_howManyLeft_L4 x k n) v1 v2 = some res := hF
      unfold f_X3_howManyLeft_L4F at hF
      refine lv_iload_n hx hb dX3_howManyLeft_4 rfl (lv_at hl 2 rfl) ?_
      refine lv_aload_n hx hb dX3_howManyLeft_5 rfl (lv_at hl 0 rfl) ?_
      refine qg_X_X3_size hM hP fl_X3_27 dX3_howManyLeft_6 ?_
      refine lv_icmp_ge (tgt := 33) hx hb dX3_howManyLeft_9 (by decide) (fun c4 => ?_) (fun c4 => ?_)
      · have hF := q_it hF c4
        exact hk _ _ _ _ (lv_sub hl [1] rfl) hP hD hS hF
      · have hF := q_ie hF c4
        refine lv_iload_n hx hb dX3_howManyLeft_12 rfl (lv_at hl 2 rfl) ?_
        refine lv_bipush (v := 48) hx hb dX3_howManyLeft_13 (by decide) ?_
        refine lv_icmp_ge (tgt := 33) hx hb dX3_howManyLeft_15 (by decide) (fun c5 => ?_) (fun c5 => ?_)
        · have hF := q_it hF c5
          exact hk _ _ _ _ (lv_sub hl [1] rfl) hP hD hS hF
        · have hF := q_ie hF c5
          refine lv_iload_n hx hb dX3_howManyLeft_18 rfl (lv_at hl 1 rfl) ?_
          refine lv_aload_n hx hb dX3_howManyLeft_19 rfl (lv_at hl 0 rfl) ?_
          refine qg_X_X3_left hM hP fl_X3_15 dX3_howManyLeft_20 ?_
          refine lv_iload_n hx hb dX3_howManyLeft_23 rfl (lv_at hl 2 rfl) ?_
          obtain ⟨h6, hF⟩ := q_gd_e hF
          refine ql_X_X3_left hM hP h6 dX3_howManyLeft_24 ?_
          refine lv_iadd hx hb dX3_howManyLeft_25 ?_
          refine lv_topi (fun v7 ev7 => ?_)
          have hF := q_let_e hF ev7
          refine lv_istore_n (lv' := [(1, .int v7), (0, .ref (ad 3)), (2, .int v2)]) hx hb dX3_howManyLeft_26 rfl hl (by decide) rfl (fun ls hl => ?_)
          obtain ⟨v8, ev8⟩ : ∃ y : Int32, y = v2 + 1 := ⟨_, rfl⟩
          have hF := q_let_e hF ev8
          refine lv_iinc (v := v8) (lv' := [(2, .int v8), (1, .int v7), (0, .ref (ad 3))]) hx hb dX3_howManyLeft_27 hl (k := 2) rfl (by rw [ev8]; rfl) (by decide) rfl (fun ls hl => ?_)
          refine lv_goto (tgt := 4) hx hb dX3_howManyLeft_30 (by decide) ?_
          exact ih _ _ _ _ _ (lv_sub hl [2, 1, 0] rfl) hP hD hS hk hF
  refine L4 _ _ _ _ _ _ _ (lv_sub hl [2, 1, 0] rfl) hP hD hS ?_ hF
  clear hF
  intro e3 H locs ls hl hP hD hS hF
  refine lv_iload_n hx hb dX3_howManyLeft_33 rfl (lv_at hl 0 rfl) ?_
  exact hRet e3 _ _ _ _ hF rfl dX3_howManyLeft_34 hP hD hS
theorem ky_X3_alarmsWithout : q_Y yX3_alarmsWithout cX3_alarmsWithout 3 (some .boolean) 2 := ⟨cw_X3_alarmsWithout, im_X3_alarmsWithout, se_X3_alarmsWithout, in_X3, by decide +kernel⟩
set_option maxHeartbeats 4000000 in
set_option maxRecDepth 100000 in
theorem c_X3_alarmsWithout (l : Launch) (D : va_G) (cI cJ : ClassId) (g : Nat → Nat) (ad : Nat → Nat) (j : JS) (x : IS) (a1 : Int32) (a2 : Int32) (res : Int32 × IS) (hF : f_X3_alarmsWithout x a1 a2 = some res) : q_Mi l yX3_alarmsWithout cX3_alarmsWithout 3 .boolean { frames := 5, cells := 0, slots := 0, locals := 119 } D cI cJ g (q_WX cI cJ ad x j) [.ref (ad 3), .int a1, .int a2] (res.1) (q_WX cI cJ ad (res.2) j) := by
  refine q_ofi (res := res) (fun u : Int32 × IS => u.1) (fun u : Int32 × IS => (q_WX cI cJ ad (u.2) j)) pl_X3 (Nat.le_of_ble_eq_true rfl) ?_
  intro p e s m args below meth c A Q hM hRet ls hl hP hD hS
  have hx := hM.1.1
  have hb := hM.1.2.1
  have hl : lv_has ls 3 [(0, .ref (ad 3)), (1, .int a1), (2, .int a2)] := hl
  unfold f_X3_alarmsWithout at hF
  refine lv_aload_n hx hb dX3_alarmsWithout_0 rfl (lv_at hl 0 rfl) ?_
  refine lv_iload_n hx hb dX3_alarmsWithout_1 rfl (lv_at hl 1 rfl) ?_
  refine lv_aload_n hx hb dX3_alarmsWithout_2 rfl (lv_at hl 0 rfl) ?_
  refine lv_iload_n hx hb dX3_alarmsWithout_3 rfl (lv_at hl 1 rfl) ?_
  refine lv_iload_n hx hb dX3_alarmsWithout_4 rfl (lv_at hl 2 rfl) ?_
  obtain ⟨r1, x2, hC3, hF⟩ := q_b2_e hF
  refine q_calli hM (c_X3_floorOf l D cI cJ g ad j _ _ _ _ hC3) hP hD hS ky_X3_floorOf ml_X3_107 rfl rfl ⟨Nat.le_of_ble_eq_true rfl, Nat.le_of_ble_eq_true rfl⟩ 3 rfl rfl rfl hl.1 rfl (Nat.le_of_ble_eq_true rfl) ⟨Nat.zero_le _, Nat.zero_le _⟩ dX3_alarmsWithout_5 (fun H locs hz4 hP hD hS => ?_)
  refine lv_aload_n hx hb dX3_alarmsWithout_8 rfl (lv_at hl 0 rfl) ?_
  refine qg_X_X3_look hM hP fl_X3_21 dX3_alarmsWithout_9 ?_
  refine lv_iconst (v := 3) hx hb dX3_alarmsWithout_12 (by decide) ?_
  refine ql_X_X3_look hM hP (by decide) dX3_alarmsWithout_13 ?_
  obtain ⟨r5, hC6, hF⟩ := q_b1_e hF
  refine q_calli hM (c_X3_outdoes l D cI cJ g ad j _ _ _ _ _ hC6) hP hD hS ky_X3_outdoes ml_X3_110 rfl rfl ⟨Nat.le_of_ble_eq_true rfl, Nat.le_of_ble_eq_true rfl⟩ 3 rfl rfl rfl hl.1 rfl (Nat.le_of_ble_eq_true rfl) ⟨Nat.zero_le _, Nat.zero_le _⟩ dX3_alarmsWithout_14 (fun H locs hz7 hP hD hS => ?_)
  exact hRet (r5, x2) _ _ _ _ hF hz7 dX3_alarmsWithout_17 hP hD hS
theorem ky_X4_append : q_Y yX4_append cX4_append 2 none 1 := ⟨cw_X4_append, im_X4_append, se_X4_append, in_X4, by decide +kernel⟩
set_option maxHeartbeats 4000000 in
set_option maxRecDepth 100000 in
theorem c_X4_append (l : Launch) (D : va_G) (cI cJ : ClassId) (g : Nat → Nat) (ad : Nat → Nat) (j : JS) (x : IS) (a1 : Int32) (res : IS) (hF : f_X4_append x a1 = some res) : q_Mv l yX4_append cX4_append 2 { frames := 0, cells := 0, slots := 0, locals := 0 } D cI cJ g (q_WX cI cJ ad x j) [.ref (ad 1), .int a1] (q_WX cI cJ ad res j) := by
  refine q_ofv (res := res) (fun u : IS => (q_WX cI cJ ad u j)) pl_X4 (Nat.le_of_ble_eq_true rfl) ?_
  intro p e s m args below meth c A Q hM hRet ls hl hP hD hS
  have hx := hM.1.1
  have hb := hM.1.2.1
  have hl : lv_has ls 2 [(0, .ref (ad 1)), (1, .int a1)] := hl
  unfold f_X4_append at hF
  refine lv_aload_n hx hb dX4_append_0 rfl (lv_at hl 0 rfl) ?_
  refine qg_X_X4_length hM hP fl_X4_18 dX4_append_1 ?_
  refine lv_sipush (v := 200) hx hb dX4_append_4 (by decide) ?_
  refine lv_icmp_ge (tgt := 30) hx hb dX4_append_7 (by decide) (fun c1 => ?_) (fun c1 => ?_)
  · have hF := q_it hF c1
    exact hRet _ _ _ _ _ hF dX4_append_30 hP hD hS
  · have hF := q_ie hF c1
    refine lv_aload_n hx hb dX4_append_10 rfl (lv_at hl 0 rfl) ?_
    refine qg_X_X4_letters hM hP fl_X4_9 dX4_append_11 ?_
    refine lv_aload_n hx hb dX4_append_14 rfl (lv_at hl 0 rfl) ?_
    refine qg_X_X4_length hM hP fl_X4_18 dX4_append_15 ?_
    refine lv_iload_n hx hb dX4_append_18 rfl (lv_at hl 1 rfl) ?_
    obtain ⟨h2, hF⟩ := q_gd_e hF
    refine qs_X_X4_letters hM hP hD hS h2 dX4_append_19 (fun x3 H locs ex3 hP hD hS => ?_)
    have hF := q_let_e hF ex3
    refine lv_aload_n hx hb dX4_append_20 rfl (lv_at hl 0 rfl) ?_
    refine lv_dup hx hb dX4_append_21 rfl ?_
    refine qg_X_X4_length hM hP fl_X4_18 dX4_append_22 ?_
    refine lv_iconst (v := 1) hx hb dX4_append_25 (by decide) ?_
    refine lv_iadd hx hb dX4_append_26 ?_
    refine qp_X_X4_length hM hP hD hS fl_X4_18 dX4_append_27 (fun x4 H locs ex4 hP hD hS => ?_)
    have hF := q_let_e hF ex4
    exact hRet _ _ _ _ _ hF dX4_append_30 hP hD hS
theorem ky_X5_startAnew : q_Y yX5_startAnew cX5_startAnew 1 none 0 := ⟨cw_X5_startAnew, im_X5_startAnew, se_X5_startAnew, in_X5, by decide +kernel⟩
set_option maxHeartbeats 4000000 in
set_option maxRecDepth 100000 in
theorem c_X5_startAnew (l : Launch) (D : va_G) (cI cJ : ClassId) (g : Nat → Nat) (ad : Nat → Nat) (j : JS) (x : IS) (res : IS) (hF : f_X5_startAnew x = some res) : q_Mv l yX5_startAnew cX5_startAnew 1 { frames := 1, cells := 0, slots := 0, locals := 26 } D cI cJ g (q_WX cI cJ ad x j) [.ref (ad 2)] (q_WX cI cJ ad res j) := by
  refine q_ofv (res := res) (fun u : IS => (q_WX cI cJ ad u j)) pl_X5 (Nat.le_of_ble_eq_true rfl) ?_
  intro p e s m args below meth c A Q hM hRet ls hl hP hD hS
  have hx := hM.1.1
  have hb := hM.1.2.1
  have hl : lv_has ls 1 [(0, .ref (ad 2))] := hl
  unfold f_X5_startAnew at hF
  refine lv_aload_n hx hb dX5_startAnew_0 rfl (lv_at hl 0 rfl) ?_
  refine lv_iconst (v := 0) hx hb dX5_startAnew_1 (by decide) ?_
  refine qp_X_X5_size hM hP hD hS fl_X5_24 dX5_startAnew_2 (fun x1 H locs ex1 hP hD hS => ?_)
  have hF := q_let_e hF ex1
  refine lv_aload_n hx hb dX5_startAnew_5 rfl (lv_at hl 0 rfl) ?_
  refine lv_iconst (v := 0) hx hb dX5_startAnew_6 (by decide) ?_
  refine qp_X_X5_mode hM hP hD hS fl_X5_28 dX5_startAnew_7 (fun x2 H locs ex2 hP hD hS => ?_)
  have hF := q_let_e hF ex2
  refine qgn_LOOK_WITHOUT hM hS hM.2.2.2.1.2.2.2.1 dX5_startAnew_10 ?_
  refine lv_iconst (v := 0) hx hb dX5_startAnew_13 (by decide) ?_
  refine lv_aload_n hx hb dX5_startAnew_14 rfl (lv_at hl 0 rfl) ?_
  refine qg_X_X5_look hM hP fl_X5_18 dX5_startAnew_15 ?_
  refine lv_iconst (v := 0) hx hb dX5_startAnew_18 (by decide) ?_
  refine qgn_LOOK_WITHOUT hM hS hM.2.2.2.1.2.2.2.1 dX5_startAnew_19 ?_
  refine qns_LOOK_WITHOUT hM hS dX5_startAnew_22 ?_
  refine qc_LOOK_WITHOUT_X5_look hM hP hD hS ml_X5_31 (by decide) hl.1 ⟨Nat.le_of_ble_eq_true rfl, Nat.le_of_ble_eq_true rfl⟩ dX5_startAnew_23 (fun x3 H locs ex3 hP hD hS => ?_)
  have hF := q_let_e hF ex3
  refine qgn_DICE_WITHOUT hM hS hM.2.2.2.1.2.2.2.2.1 dX5_startAnew_26 ?_
  refine lv_iconst (v := 0) hx hb dX5_startAnew_29 (by decide) ?_
  refine lv_aload_n hx hb dX5_startAnew_30 rfl (lv_at hl 0 rfl) ?_
  refine qg_X_X5_weights hM hP fl_X5_21 dX5_startAnew_31 ?_
  refine lv_iconst (v := 0) hx hb dX5_startAnew_34 (by decide) ?_
  refine lv_bipush (v := 8) hx hb dX5_startAnew_35 (by decide) ?_
  refine qc_DICE_WITHOUT_X5_weights hM hP hD hS ml_X5_31 (by decide) hl.1 ⟨Nat.le_of_ble_eq_true rfl, Nat.le_of_ble_eq_true rfl⟩ dX5_startAnew_37 (fun x4 H locs ex4 hP hD hS => ?_)
  have hF := q_let_e hF ex4
  exact hRet _ _ _ _ _ hF dX5_startAnew_40 hP hD hS
theorem ky_X4_endOfItem : q_Y yX4_endOfItem cX4_endOfItem 3 (some .int) 1 := ⟨cw_X4_endOfItem, im_X4_endOfItem, se_X4_endOfItem, in_X4, by decide +kernel⟩
set_option maxHeartbeats 4000000 in
set_option maxRecDepth 100000 in
theorem c_X4_endOfItem (l : Launch) (D : va_G) (cI cJ : ClassId) (g : Nat → Nat) (ad : Nat → Nat) (j : JS) (x : IS) (a1 : Int32) (res : Int32) (hF : f_X4_endOfItem x a1 = some res) : q_Mi l yX4_endOfItem cX4_endOfItem 3 .int { frames := 0, cells := 0, slots := 0, locals := 0 } D cI cJ g (q_WX cI cJ ad x j) [.ref (ad 1), .int a1] (res) (q_WX cI cJ ad x j) := by
  refine q_ofi (res := res) (fun u : Int32 => u) (fun _ : Int32 => (q_WX cI cJ ad x j)) pl_X4 (Nat.le_of_ble_eq_true rfl) ?_
  intro p e s m args below meth c A Q hM hRet ls hl hP hD hS
  have hx := hM.1.1
  have hb := hM.1.2.1
  have hl : lv_has ls 3 [(0, .ref (ad 1)), (1, .int a1)] := hl
  unfold f_X4_endOfItem at hF
  refine lv_iload_n hx hb dX4_endOfItem_0 rfl (lv_at hl 1 rfl) ?_
  refine lv_istore_n (lv' := [(2, .int a1), (0, .ref (ad 1)), (1, .int a1)]) hx hb dX4_endOfItem_1 rfl hl (by decide) rfl (fun ls hl => ?_)
  have L2 : ∀ (k : Option (Int32)) (n : Nat) (v1 : Int32) (H : Heap) (locs : List Loc) (ls : Array Slot), lv_has ls 3 [(0, .ref (ad 1)), (2, .int v1)] → va_P D vwCl (q_WX cI cJ ad x j) H → va_D A (q_WX cI cJ ad x j) → va_S A s.heap H locs → (∀ (H : Heap) (locs : List Loc) (ls : Array Slot), lv_has ls 3 [] → va_P D vwCl (q_WX cI cJ ad x j) H → va_D A (q_WX cI cJ ad x j) → va_S A s.heap H locs → k = some res → W p l e { frames := 0, cells := 0, slots := 0, locals := 0 } s m args below meth c H locs 0 0 Q (F0 m 29 ls [])) → f_X4_endOfItem_L2 x k n v1 = some res → W p l e { frames := 0, cells := 0, slots := 0, locals := 0 } s m args below meth c H locs 0 0 Q (F0 m 2 ls []) := by
    intro k n
    induction n with
    | zero => intro v1 H locs ls hl hP hD hS hk hF; exact q_no hF
    | succ n ih =>
      intro v1 H locs ls hl hP hD hS hk hF
      have hF : f_X4_endOfItem_L2F x k (f_X4_endOfItem_L2 x k n) v1 = some res := hF
      unfold f_X4_endOfItem_L2F at hF
      refine lv_iload_n hx hb dX4_endOfItem_2 rfl (lv_at hl 1 rfl) ?_
      refine lv_aload_n hx hb dX4_endOfItem_3 rfl (lv_at hl 0 rfl) ?_
      refine qg_X_X4_length hM hP fl_X4_18 dX4_endOfItem_4 ?_
      refine lv_icmp_ge (tgt := 29) hx hb dX4_endOfItem_7 (by decide) (fun c2 => ?_) (fun c2 => ?_)
      · have hF := q_it hF c2
        exact hk _ _ _ (lv_sub hl [] rfl) hP hD hS hF
      · have hF := q_ie hF c2
        refine lv_aload_n hx hb dX4_endOfItem_10 rfl (lv_at hl 0 rfl) ?_
        refine qg_X_X4_letters hM hP fl_X4_9 dX4_endOfItem_11 ?_
        refine lv_iload_n hx hb dX4_endOfItem_14 rfl (lv_at hl 1 rfl) ?_
        obtain ⟨h3, hF⟩ := q_gd_e hF
        refine ql_X_X4_letters hM hP h3 dX4_endOfItem_15 ?_
        refine lv_bipush (v := 59) hx hb dX4_endOfItem_16 (by decide) ?_
        refine lv_icmp_ne (tgt := 23) hx hb dX4_endOfItem_18 (by decide) (fun c4 => ?_) (fun c4 => ?_)
        · have hF := q_ie hF c4
          obtain ⟨v5, ev5⟩ : ∃ y : Int32, y = v1 + 1 := ⟨_, rfl⟩
          have hF := q_let_e hF ev5
          refine lv_iinc (v := v5) (lv' := [(2, .int v5), (0, .ref (ad 1))]) hx hb dX4_endOfItem_23 hl (k := 1) rfl (by rw [ev5]; rfl) (by decide) rfl (fun ls hl => ?_)
          refine lv_goto (tgt := 2) hx hb dX4_endOfItem_26 (by decide) ?_
          exact ih _ _ _ _ (lv_sub hl [1, 0] rfl) hP hD hS hk hF
        · have hF := q_it hF c4
          refine lv_iload_n hx hb dX4_endOfItem_21 rfl (lv_at hl 1 rfl) ?_
          exact hRet v1 _ _ _ _ hF rfl dX4_endOfItem_22 hP hD hS
  refine L2 _ _ _ _ _ _ (lv_sub hl [1, 0] rfl) hP hD hS ?_ hF
  clear hF
  intro H locs ls hl hP hD hS hF
  refine lv_bipush (v := -4) hx hb dX4_endOfItem_29 (by decide) ?_
  exact hRet (-4 : Int32) _ _ _ _ hF rfl dX4_endOfItem_31 hP hD hS
theorem ky_X4_stands : q_Y yX4_stands cX4_stands 5 (some .boolean) 3 := ⟨cw_X4_stands, im_X4_stands, se_X4_stands, in_X4, by decide +kernel⟩
set_option maxHeartbeats 4000000 in
set_option maxRecDepth 100000 in
theorem c_X4_stands (l : Launch) (D : va_G) (cI cJ : ClassId) (g : Nat → Nat) (ad : Nat → Nat) (j : JS) (x : IS) (wi : Nat) (a2 : Int32) (a3 : Int32) (res : Int32) (hF : f_X4_stands x wi a2 a3 = some res) : q_Mi l yX4_stands cX4_stands 5 .boolean { frames := 4, cells := 0, slots := 0, locals := 85 } D cI cJ g (q_WX cI cJ ad x j) [.ref (ad 1), .ref (g (10 + wi)), .int a2, .int a3] (res) (q_WX cI cJ ad x j) := by
  refine q_ofi (res := res) (fun u : Int32 => u) (fun _ : Int32 => (q_WX cI cJ ad x j)) pl_X4 (Nat.le_of_ble_eq_true rfl) ?_
  intro p e s m args below meth c A Q hM hRet ls hl hP hD hS
  have hx := hM.1.1
  have hb := hM.1.2.1
  have hl : lv_has ls 5 [(0, .ref (ad 1)), (1, .ref (g (10 + wi))), (2, .int a2), (3, .int a3)] := hl
  unfold f_X4_stands at hF
  refine lv_iload_n hx hb dX4_stands_0 rfl (lv_at hl 2 rfl) ?_
  refine lv_if_lt (tgt := 22) hx hb dX4_stands_1 (by decide) (fun c1 => ?_) (fun c1 => ?_)
  · have hF := q_it hF c1
    refine lv_iconst (v := 0) hx hb dX4_stands_22 (by decide) ?_
    exact hRet (0 : Int32) _ _ _ _ hF narrow_b0 dX4_stands_23 hP hD hS
  · have hF := q_ie hF c1
    refine lv_iload_n hx hb dX4_stands_4 rfl (lv_at hl 3 rfl) ?_
    refine lv_aload_n hx hb dX4_stands_5 rfl (lv_at hl 0 rfl) ?_
    refine qg_X_X4_length hM hP fl_X4_18 dX4_stands_6 ?_
    refine lv_icmp_gt (tgt := 22) hx hb dX4_stands_9 (by decide) (fun c2 => ?_) (fun c2 => ?_)
    · have hF := q_it hF c2
      refine lv_iconst (v := 0) hx hb dX4_stands_22 (by decide) ?_
      exact hRet (0 : Int32) _ _ _ _ hF narrow_b0 dX4_stands_23 hP hD hS
    · have hF := q_ie hF c2
      refine lv_iload_n hx hb dX4_stands_12 rfl (lv_at hl 3 rfl) ?_
      refine lv_iload_n hx hb dX4_stands_13 rfl (lv_at hl 2 rfl) ?_
      refine lv_isub hx hb dX4_stands_14 ?_
      refine lv_aload_n hx hb dX4_stands_15 rfl (lv_at hl 1 rfl) ?_
      obtain ⟨r3, hC4, hF⟩ := q_b1_e hF
      refine q_calliT hM (c_J0_length l D cI cJ g (q_WX cI cJ ad x j) wi _ hC4) hP hD hS ky_J0_length_8abf5 rfl (q_wl hC4) ml_X4_73 rfl rfl ⟨Nat.le_of_ble_eq_true rfl, Nat.le_of_ble_eq_true rfl⟩ rfl hl.1 rfl (Nat.le_of_ble_eq_true rfl) ⟨Nat.zero_le _, Nat.zero_le _⟩ dX4_stands_16 (fun H locs hz5 hP hD hS => ?_)
      refine lv_icmp_eq (tgt := 24) hx hb dX4_stands_19 (by decide) (fun c6 => ?_) (fun c6 => ?_)
      · have hF := q_it hF c6
        refine lv_iconst (v := 0) hx hb dX4_stands_24 (by decide) ?_
        refine lv_istore (lv' := [(4, .int (0 : Int32)), (0, .ref (ad 1)), (1, .ref (g (10 + wi))), (2, .int a2), (3, .int a3)]) hx hb dX4_stands_25 hl (by decide) rfl (fun ls hl => ?_)
        have L27 : ∀ (k : Option (Int32)) (n : Nat) (v7 : Int32) (H : Heap) (locs : List Loc) (ls : Array Slot), lv_has ls 5 [(0, .ref (ad 1)), (1, .ref (g (10 + wi))), (2, .int a2), (4, .int v7)] → va_P D vwCl (q_WX cI cJ ad x j) H → va_D A (q_WX cI cJ ad x j) → va_S A s.heap H locs → (∀ (H : Heap) (locs : List Loc) (ls : Array Slot), lv_has ls 5 [] → va_P D vwCl (q_WX cI cJ ad x j) H → va_D A (q_WX cI cJ ad x j) → va_S A s.heap H locs → k = some res → W p l e { frames := 4, cells := 0, slots := 0, locals := 85 } s m args below meth c H locs 0 0 Q (F0 m 62 ls [])) → f_X4_stands_L27 wi x a2 k n v7 = some res → W p l e { frames := 4, cells := 0, slots := 0, locals := 85 } s m args below meth c H locs 0 0 Q (F0 m 27 ls []) := by
          intro k n
          induction n with
          | zero => intro v7 H locs ls hl hP hD hS hk hF; exact q_no hF
          | succ n ih =>
            intro v7 H locs ls hl hP hD hS hk hF
            have hF : f_X4_stands_L27F wi x a2 k (f_X4_stands_L27 wi x a2 k n) v7 = some res := hF
            unfold f_X4_stands_L27F at hF
            refine lv_iload hx hb dX4_stands_27 (lv_at hl 3 rfl) ?_
            refine lv_aload_n hx hb dX4_stands_29 rfl (lv_at hl 1 rfl) ?_
            obtain ⟨r8, hC9, hF⟩ := q_b1_e hF
            refine q_calliT hM (c_J0_length l D cI cJ g (q_WX cI cJ ad x j) wi _ hC9) hP hD hS ky_J0_length_8abf5 rfl (q_wl hC9) ml_X4_73 rfl rfl ⟨Nat.le_of_ble_eq_true rfl, Nat.le_of_ble_eq_true rfl⟩ rfl hl.1 rfl (Nat.le_of_ble_eq_true rfl) ⟨Nat.zero_le _, Nat.zero_le _⟩ dX4_stands_30 (fun H locs hz10 hP hD hS => ?_)
            refine lv_icmp_ge (tgt := 62) hx hb dX4_stands_33 (by decide) (fun c11 => ?_) (fun c11 => ?_)
            · have hF := q_it hF c11
              exact hk _ _ _ (lv_sub hl [] rfl) hP hD hS hF
            · have hF := q_ie hF c11
              refine lv_aload_n hx hb dX4_stands_36 rfl (lv_at hl 0 rfl) ?_
              refine qg_X_X4_letters hM hP fl_X4_9 dX4_stands_37 ?_
              refine lv_iload_n hx hb dX4_stands_40 rfl (lv_at hl 2 rfl) ?_
              refine lv_iload hx hb dX4_stands_41 (lv_at hl 3 rfl) ?_
              refine lv_iadd hx hb dX4_stands_43 ?_
              obtain ⟨h12, hF⟩ := q_gd_e hF
              refine ql_X_X4_letters hM hP h12 dX4_stands_44 ?_
              refine lv_aload_n hx hb dX4_stands_45 rfl (lv_at hl 1 rfl) ?_
              refine lv_iload hx hb dX4_stands_46 (lv_at hl 3 rfl) ?_
              obtain ⟨r13, hC14, hF⟩ := q_b1_e hF
              refine q_calliT hM (c_J0_charAt l D cI cJ g (q_WX cI cJ ad x j) wi _ _ hC14) hP hD hS ky_J0_charAt_5068e rfl (q_wc hC14) ml_X4_78 rfl rfl ⟨Nat.le_of_ble_eq_true rfl, Nat.le_of_ble_eq_true rfl⟩ rfl hl.1 rfl (Nat.le_of_ble_eq_true rfl) ⟨Nat.zero_le _, Nat.zero_le _⟩ dX4_stands_48 (fun H locs hz15 hP hD hS => ?_)
              refine lv_icmp_eq (tgt := 56) hx hb dX4_stands_51 (by decide) (fun c16 => ?_) (fun c16 => ?_)
              · have hF := q_it hF c16
                obtain ⟨v17, ev17⟩ : ∃ y : Int32, y = v7 + 1 := ⟨_, rfl⟩
                have hF := q_let_e hF ev17
                refine lv_iinc (v := v17) (lv' := [(4, .int v17), (0, .ref (ad 1)), (1, .ref (g (10 + wi))), (2, .int a2)]) hx hb dX4_stands_56 hl (k := 3) rfl (by rw [ev17]; rfl) (by decide) rfl (fun ls hl => ?_)
                refine lv_goto (tgt := 27) hx hb dX4_stands_59 (by decide) ?_
                exact ih _ _ _ _ (lv_sub hl [1, 2, 3, 0] rfl) hP hD hS hk hF
              · have hF := q_ie hF c16
                refine lv_iconst (v := 0) hx hb dX4_stands_54 (by decide) ?_
                exact hRet (0 : Int32) _ _ _ _ hF narrow_b0 dX4_stands_55 hP hD hS
        refine L27 _ _ _ _ _ _ (lv_sub hl [1, 2, 3, 0] rfl) hP hD hS ?_ hF
        clear hF
        intro H locs ls hl hP hD hS hF
        refine lv_iconst (v := 1) hx hb dX4_stands_62 (by decide) ?_
        exact hRet (1 : Int32) _ _ _ _ hF narrow_b1 dX4_stands_63 hP hD hS
      · have hF := q_ie hF c6
        refine lv_iconst (v := 0) hx hb dX4_stands_22 (by decide) ?_
        exact hRet (0 : Int32) _ _ _ _ hF narrow_b0 dX4_stands_23 hP hD hS
theorem ky_X4_readMode : q_Y yX4_readMode cX4_readMode 4 (some .boolean) 3 := ⟨cw_X4_readMode, im_X4_readMode, se_X4_readMode, in_X4, by decide +kernel⟩
set_option maxHeartbeats 4000000 in
set_option maxRecDepth 100000 in
theorem c_X4_readMode (l : Launch) (D : va_G) (cI cJ : ClassId) (g : Nat → Nat) (ad : Nat → Nat) (j : JS) (x : IS) (a1 : Int32) (a2 : Int32) (res : Int32 × IS) (hF : f_X4_readMode x a1 a2 = some res) : q_Mi l yX4_readMode cX4_readMode 4 .boolean { frames := 5, cells := 0, slots := 0, locals := 109 } D cI cJ g (q_WX cI cJ ad x j) [.ref (ad 1), .int a1, .int a2, .ref (ad 2)] (res.1) (q_WX cI cJ ad (res.2) j) := by
  refine q_ofi (res := res) (fun u : Int32 × IS => u.1) (fun u : Int32 × IS => (q_WX cI cJ ad (u.2) j)) pl_X4 (Nat.le_of_ble_eq_true rfl) ?_
  intro p e s m args below meth c A Q hM hRet ls hl hP hD hS
  have hx := hM.1.1
  have hb := hM.1.2.1
  have hl : lv_has ls 4 [(0, .ref (ad 1)), (1, .int a1), (2, .int a2), (3, .ref (ad 2))] := hl
  unfold f_X4_readMode at hF
  refine lv_aload_n hx hb dX4_readMode_0 rfl (lv_at hl 0 rfl) ?_
  refine qk_4 hM dX4_readMode_1 ?_
  refine lv_iload_n hx hb dX4_readMode_3 rfl (lv_at hl 1 rfl) ?_
  refine lv_iload_n hx hb dX4_readMode_4 rfl (lv_at hl 2 rfl) ?_
  obtain ⟨r1, hC2, hF⟩ := q_b1_e hF
  refine q_calli hM (c_X4_stands l D cI cJ g ad j _ _ _ _ _ hC2) hP hD hS ky_X4_stands ml_X4_37 rfl rfl ⟨Nat.le_of_ble_eq_true rfl, Nat.le_of_ble_eq_true rfl⟩ 1 rfl rfl rfl hl.1 rfl (Nat.le_of_ble_eq_true rfl) ⟨Nat.zero_le _, Nat.zero_le _⟩ dX4_readMode_5 (fun H locs hz3 hP hD hS => ?_)
  refine lv_if_eq (tgt := 19) hx hb dX4_readMode_8 (by decide) (fun c4 => ?_) (fun c4 => ?_)
  · have hF := q_it hF c4
    refine lv_aload_n hx hb dX4_readMode_19 rfl (lv_at hl 0 rfl) ?_
    refine qk_5 hM dX4_readMode_20 ?_
    refine lv_iload_n hx hb dX4_readMode_22 rfl (lv_at hl 1 rfl) ?_
    refine lv_iload_n hx hb dX4_readMode_23 rfl (lv_at hl 2 rfl) ?_
    obtain ⟨r5, hC6, hF⟩ := q_b1_e hF
    refine q_calli hM (c_X4_stands l D cI cJ g ad j _ _ _ _ _ hC6) hP hD hS ky_X4_stands ml_X4_37 rfl rfl ⟨Nat.le_of_ble_eq_true rfl, Nat.le_of_ble_eq_true rfl⟩ 1 rfl rfl rfl hl.1 rfl (Nat.le_of_ble_eq_true rfl) ⟨Nat.zero_le _, Nat.zero_le _⟩ dX4_readMode_24 (fun H locs hz7 hP hD hS => ?_)
    refine lv_if_eq (tgt := 38) hx hb dX4_readMode_27 (by decide) (fun c8 => ?_) (fun c8 => ?_)
    · have hF := q_it hF c8
      refine lv_aload_n hx hb dX4_readMode_38 rfl (lv_at hl 0 rfl) ?_
      refine qk_6 hM dX4_readMode_39 ?_
      refine lv_iload_n hx hb dX4_readMode_41 rfl (lv_at hl 1 rfl) ?_
      refine lv_iload_n hx hb dX4_readMode_42 rfl (lv_at hl 2 rfl) ?_
      obtain ⟨r9, hC10, hF⟩ := q_b1_e hF
      refine q_calli hM (c_X4_stands l D cI cJ g ad j _ _ _ _ _ hC10) hP hD hS ky_X4_stands ml_X4_37 rfl rfl ⟨Nat.le_of_ble_eq_true rfl, Nat.le_of_ble_eq_true rfl⟩ 1 rfl rfl rfl hl.1 rfl (Nat.le_of_ble_eq_true rfl) ⟨Nat.zero_le _, Nat.zero_le _⟩ dX4_readMode_43 (fun H locs hz11 hP hD hS => ?_)
      refine lv_if_eq (tgt := 57) hx hb dX4_readMode_46 (by decide) (fun c12 => ?_) (fun c12 => ?_)
      · have hF := q_it hF c12
        refine lv_iconst (v := 0) hx hb dX4_readMode_57 (by decide) ?_
        exact hRet ((0 : Int32), x) _ _ _ _ hF narrow_b0 dX4_readMode_58 hP hD hS
      · have hF := q_ie hF c12
        refine lv_aload_n hx hb dX4_readMode_49 rfl (lv_at hl 3 rfl) ?_
        refine lv_iconst (v := 2) hx hb dX4_readMode_50 (by decide) ?_
        refine qp_X_X5_mode hM hP hD hS fl_X4_66 dX4_readMode_51 (fun x13 H locs ex13 hP hD hS => ?_)
        have hF := q_let_e hF ex13
        refine lv_goto (tgt := 59) hx hb dX4_readMode_54 (by decide) ?_
        refine lv_iconst (v := 1) hx hb dX4_readMode_59 (by decide) ?_
        exact hRet ((1 : Int32), x13) _ _ _ _ hF narrow_b1 dX4_readMode_60 hP hD hS
    · have hF := q_ie hF c8
      refine lv_aload_n hx hb dX4_readMode_30 rfl (lv_at hl 3 rfl) ?_
      refine lv_iconst (v := 1) hx hb dX4_readMode_31 (by decide) ?_
      refine qp_X_X5_mode hM hP hD hS fl_X4_66 dX4_readMode_32 (fun x14 H locs ex14 hP hD hS => ?_)
      have hF := q_let_e hF ex14
      refine lv_goto (tgt := 59) hx hb dX4_readMode_35 (by decide) ?_
      refine lv_iconst (v := 1) hx hb dX4_readMode_59 (by decide) ?_
      exact hRet ((1 : Int32), x14) _ _ _ _ hF narrow_b1 dX4_readMode_60 hP hD hS
  · have hF := q_ie hF c4
    refine lv_aload_n hx hb dX4_readMode_11 rfl (lv_at hl 3 rfl) ?_
    refine lv_iconst (v := 0) hx hb dX4_readMode_12 (by decide) ?_
    refine qp_X_X5_mode hM hP hD hS fl_X4_66 dX4_readMode_13 (fun x15 H locs ex15 hP hD hS => ?_)
    have hF := q_let_e hF ex15
    refine lv_goto (tgt := 59) hx hb dX4_readMode_16 (by decide) ?_
    refine lv_iconst (v := 1) hx hb dX4_readMode_59 (by decide) ?_
    exact hRet ((1 : Int32), x15) _ _ _ _ hF narrow_b1 dX4_readMode_60 hP hD hS
theorem ky_X4_readNumbers : q_Y yX4_readNumbers cX4_readNumbers 8 (some .int) 2 := ⟨cw_X4_readNumbers, im_X4_readNumbers, se_X4_readNumbers, in_X4, by decide +kernel⟩
set_option maxHeartbeats 4000000 in
set_option maxRecDepth 100000 in
theorem c_X4_readNumbers (l : Launch) (D : va_G) (cI cJ : ClassId) (g : Nat → Nat) (ad : Nat → Nat) (j : JS) (x : IS) (a1 : Int32) (a2 : Int32) (res : Int32 × IS) (hF : f_X4_readNumbers x a1 a2 = some res) : q_Mi l yX4_readNumbers cX4_readNumbers 8 .int { frames := 0, cells := 0, slots := 0, locals := 0 } D cI cJ g (q_WX cI cJ ad x j) [.ref (ad 1), .int a1, .int a2] (res.1) (q_WX cI cJ ad (res.2) j) := by
  refine q_ofi (res := res) (fun u : Int32 × IS => u.1) (fun u : Int32 × IS => (q_WX cI cJ ad (u.2) j)) pl_X4 (Nat.le_of_ble_eq_true rfl) ?_
  intro p e s m args below meth c A Q hM hRet ls hl hP hD hS
  have hx := hM.1.1
  have hb := hM.1.2.1
  have hl : lv_has ls 8 [(0, .ref (ad 1)), (1, .int a1), (2, .int a2)] := hl
  unfold f_X4_readNumbers at hF
  refine lv_iconst (v := 0) hx hb dX4_readNumbers_0 (by decide) ?_
  refine lv_istore_n (lv' := [(3, .int (0 : Int32)), (0, .ref (ad 1)), (1, .int a1), (2, .int a2)]) hx hb dX4_readNumbers_1 rfl hl (by decide) rfl (fun ls hl => ?_)
  refine lv_iconst (v := 0) hx hb dX4_readNumbers_2 (by decide) ?_
  refine lv_istore (lv' := [(4, .int (0 : Int32)), (3, .int (0 : Int32)), (0, .ref (ad 1)), (1, .int a1), (2, .int a2)]) hx hb dX4_readNumbers_3 hl (by decide) rfl (fun ls hl => ?_)
  refine lv_iconst (v := 0) hx hb dX4_readNumbers_5 (by decide) ?_
  refine lv_istore (lv' := [(5, .int (0 : Int32)), (4, .int (0 : Int32)), (3, .int (0 : Int32)), (0, .ref (ad 1)), (1, .int a1), (2, .int a2)]) hx hb dX4_readNumbers_6 hl (by decide) rfl (fun ls hl => ?_)
  refine lv_iload_n hx hb dX4_readNumbers_8 rfl (lv_at hl 4 rfl) ?_
  refine lv_istore (lv' := [(6, .int a1), (5, .int (0 : Int32)), (4, .int (0 : Int32)), (3, .int (0 : Int32)), (0, .ref (ad 1)), (1, .int a1), (2, .int a2)]) hx hb dX4_readNumbers_9 hl (by decide) rfl (fun ls hl => ?_)
  have L11 : ∀ (k : Int32 → IS → Option (Int32 × IS)) (n : Nat) (v1 : Int32) (v2 : Int32) (v3 : Int32) (v4 : Int32) (x6 : IS) (H : Heap) (locs : List Loc) (ls : Array Slot), lv_has ls 8 [(0, .ref (ad 1)), (2, .int a2), (3, .int v1), (4, .int v2), (5, .int v3), (6, .int v4)] → va_P D vwCl (q_WX cI cJ ad x6 j) H → va_D A (q_WX cI cJ ad x6 j) → va_S A s.heap H locs → (∀ (e5 : Int32) (x7 : IS) (H : Heap) (locs : List Loc) (ls : Array Slot), lv_has ls 8 [(3, .int e5)] → va_P D vwCl (q_WX cI cJ ad x7 j) H → va_D A (q_WX cI cJ ad x7 j) → va_S A s.heap H locs → k e5 x7 = some res → W p l e { frames := 0, cells := 0, slots := 0, locals := 0 } s m args below meth c H locs 0 0 Q (F0 m 128 ls [])) → f_X4_readNumbers_L11 a2 k n v1 v2 v3 v4 x6 = some res → W p l e { frames := 0, cells := 0, slots := 0, locals := 0 } s m args below meth c H locs 0 0 Q (F0 m 11 ls []) := by
    intro k n
    induction n with
    | zero => intro v1 v2 v3 v4 x6 H locs ls hl hP hD hS hk hF; exact q_no hF
    | succ n ih =>
      intro v1 v2 v3 v4 x6 H locs ls hl hP hD hS hk hF
      have hF : f_X4_readNumbers_L11F a2 k (f_X4_readNumbers_L11 a2 k n) v1 v2 v3 v4 x6 = some res := hF
      unfold f_X4_readNumbers_L11F at hF
      refine lv_iload hx hb dX4_readNumbers_11 (lv_at hl 5 rfl) ?_
      refine lv_iload_n hx hb dX4_readNumbers_13 rfl (lv_at hl 1 rfl) ?_
      refine lv_icmp_gt (tgt := 128) hx hb dX4_readNumbers_14 (by decide) (fun c8 => ?_) (fun c8 => ?_)
      · have hF := q_it hF c8
        exact hk _ _ _ _ _ (lv_sub hl [2] rfl) hP hD hS hF
      · have hF := q_ie hF c8
        refine lv_iload hx hb dX4_readNumbers_17 (lv_at hl 5 rfl) ?_
        refine lv_aload_n hx hb dX4_readNumbers_19 rfl (lv_at hl 0 rfl) ?_
        refine qg_X_X4_length hM hP fl_X4_18 dX4_readNumbers_20 ?_
        refine lv_icmp_ge (tgt := 128) hx hb dX4_readNumbers_23 (by decide) (fun c9 => ?_) (fun c9 => ?_)
        · have hF := q_it hF c9
          exact hk _ _ _ _ _ (lv_sub hl [2] rfl) hP hD hS hF
        · have hF := q_ie hF c9
          refine lv_aload_n hx hb dX4_readNumbers_26 rfl (lv_at hl 0 rfl) ?_
          refine qg_X_X4_letters hM hP fl_X4_9 dX4_readNumbers_27 ?_
          refine lv_iload hx hb dX4_readNumbers_30 (lv_at hl 5 rfl) ?_
          obtain ⟨h10, hF⟩ := q_gd_e hF
          refine ql_X_X4_letters hM hP h10 dX4_readNumbers_32 ?_
          refine lv_topi (fun v11 ev11 => ?_)
          have hF := q_let_e hF ev11
          refine lv_istore (lv' := [(7, .int v11), (0, .ref (ad 1)), (2, .int a2), (3, .int v1), (4, .int v2), (5, .int v3), (6, .int v4)]) hx hb dX4_readNumbers_33 hl (by decide) rfl (fun ls hl => ?_)
          refine lv_iload hx hb dX4_readNumbers_35 (lv_at hl 0 rfl) ?_
          refine lv_bipush (v := 48) hx hb dX4_readNumbers_37 (by decide) ?_
          obtain ⟨J122, hJ122, hF⟩ := q_jn_e hF
          have K122 : ∀ (v24 : Int32) (v25 : Int32) (v26 : Int32) (x27 : IS) (H : Heap) (locs : List Loc) (ls : Array Slot), lv_has ls 8 [(0, .ref (ad 1)), (2, .int a2), (3, .int v24), (4, .int v25), (5, .int v26), (6, .int v4)] → va_P D vwCl (q_WX cI cJ ad x27 j) H → va_D A (q_WX cI cJ ad x27 j) → va_S A s.heap H locs → J122 v24 v25 v26 x27 = some res → W p l e { frames := 0, cells := 0, slots := 0, locals := 0 } s m args below meth c H locs 0 0 Q (F0 m 122 ls []) := by
            clear hF; intro v24 v25 v26 x27 H locs ls hl hP hD hS hF
            rw [hJ122] at hF
            try dsimp only at hF
            obtain ⟨v28, ev28⟩ : ∃ y : Int32, y = v4 + 1 := ⟨_, rfl⟩
            have hF := q_let_e hF ev28
            refine lv_iinc (v := v28) (lv' := [(6, .int v28), (0, .ref (ad 1)), (2, .int a2), (3, .int v24), (4, .int v25), (5, .int v26)]) hx hb dX4_readNumbers_122 hl (k := 5) rfl (by rw [ev28]; rfl) (by decide) rfl (fun ls hl => ?_)
            refine lv_goto (tgt := 11) hx hb dX4_readNumbers_125 (by decide) ?_
            exact ih _ _ _ _ _ _ _ _ (lv_sub hl [1, 2, 3, 4, 5, 0] rfl) hP hD hS hk hF
          obtain ⟨J74, hJ74, hF⟩ := q_jn_e hF
          have K74 : ∀ (H : Heap) (locs : List Loc) (ls : Array Slot), lv_has ls 8 [(0, .ref (ad 1)), (2, .int a2), (3, .int v1), (4, .int v2), (5, .int v3), (6, .int v4), (7, .int v11)] → va_P D vwCl (q_WX cI cJ ad x6 j) H → va_D A (q_WX cI cJ ad x6 j) → va_S A s.heap H locs → J74 = some res → W p l e { frames := 0, cells := 0, slots := 0, locals := 0 } s m args below meth c H locs 0 0 Q (F0 m 74 ls []) := by
            clear hF; intro H locs ls hl hP hD hS hF
            rw [hJ74] at hF
            refine lv_iload hx hb dX4_readNumbers_74 (lv_at hl 6 rfl) ?_
            refine lv_bipush (v := 44) hx hb dX4_readNumbers_76 (by decide) ?_
            obtain ⟨J88, hJ88, hF⟩ := q_jn_e hF
            have K88 : ∀ (H : Heap) (locs : List Loc) (ls : Array Slot), lv_has ls 8 [(0, .ref (ad 1)), (2, .int a2), (3, .int v1), (4, .int v2), (5, .int v3), (6, .int v4)] → va_P D vwCl (q_WX cI cJ ad x6 j) H → va_D A (q_WX cI cJ ad x6 j) → va_S A s.heap H locs → J88 = some res → W p l e { frames := 0, cells := 0, slots := 0, locals := 0 } s m args below meth c H locs 0 0 Q (F0 m 88 ls []) := by
              clear hF; intro H locs ls hl hP hD hS hF
              rw [hJ88] at hF
              refine lv_iload hx hb dX4_readNumbers_88 (lv_at hl 3 rfl) ?_
              refine lv_if_le (tgt := 119) hx hb dX4_readNumbers_90 (by decide) (fun c19 => ?_) (fun c19 => ?_)
              · have hF := q_it hF c19
                refine lv_bipush (v := -4) hx hb dX4_readNumbers_119 (by decide) ?_
                exact hRet ((-4 : Int32), x6) _ _ _ _ hF rfl dX4_readNumbers_121 hP hD hS
              · have hF := q_ie hF c19
                refine lv_iload_n hx hb dX4_readNumbers_93 rfl (lv_at hl 2 rfl) ?_
                refine lv_bipush (v := 48) hx hb dX4_readNumbers_94 (by decide) ?_
                refine lv_icmp_ge (tgt := 119) hx hb dX4_readNumbers_96 (by decide) (fun c20 => ?_) (fun c20 => ?_)
                · have hF := q_it hF c20
                  refine lv_bipush (v := -4) hx hb dX4_readNumbers_119 (by decide) ?_
                  exact hRet ((-4 : Int32), x6) _ _ _ _ hF rfl dX4_readNumbers_121 hP hD hS
                · have hF := q_ie hF c20
                  refine lv_aload_n hx hb dX4_readNumbers_99 rfl (lv_at hl 0 rfl) ?_
                  refine qg_X_X4_numbers hM hP fl_X4_15 dX4_readNumbers_100 ?_
                  refine lv_iload_n hx hb dX4_readNumbers_103 rfl (lv_at hl 2 rfl) ?_
                  refine lv_iload hx hb dX4_readNumbers_104 (lv_at hl 4 rfl) ?_
                  obtain ⟨h21, hF⟩ := q_gd_e hF
                  refine qs_X_X4_numbers hM hP hD hS h21 dX4_readNumbers_106 (fun x22 H locs ex22 hP hD hS => ?_)
                  have hF := q_let_e hF ex22
                  obtain ⟨v23, ev23⟩ : ∃ y : Int32, y = v1 + 1 := ⟨_, rfl⟩
                  have hF := q_let_e hF ev23
                  refine lv_iinc (v := v23) (lv' := [(3, .int v23), (0, .ref (ad 1)), (2, .int a2), (4, .int v2), (5, .int v3), (6, .int v4)]) hx hb dX4_readNumbers_107 hl (k := 2) rfl (by rw [ev23]; rfl) (by decide) rfl (fun ls hl => ?_)
                  refine lv_iconst (v := 0) hx hb dX4_readNumbers_110 (by decide) ?_
                  refine lv_istore (lv' := [(4, .int (0 : Int32)), (3, .int v23), (0, .ref (ad 1)), (2, .int a2), (5, .int v3), (6, .int v4)]) hx hb dX4_readNumbers_111 hl (by decide) rfl (fun ls hl => ?_)
                  refine lv_iconst (v := 0) hx hb dX4_readNumbers_113 (by decide) ?_
                  refine lv_istore (lv' := [(5, .int (0 : Int32)), (4, .int (0 : Int32)), (3, .int v23), (0, .ref (ad 1)), (2, .int a2), (6, .int v4)]) hx hb dX4_readNumbers_114 hl (by decide) rfl (fun ls hl => ?_)
                  refine lv_goto (tgt := 122) hx hb dX4_readNumbers_116 (by decide) ?_
                  exact K122 _ _ _ _ _ _ _ (lv_sub hl [3, 4, 2, 1, 0, 5] rfl) hP hD hS hF
            refine lv_icmp_eq (tgt := 88) hx hb dX4_readNumbers_78 (by decide) (fun c17 => ?_) (fun c17 => ?_)
            · have hF := q_it hF c17
              exact K88 _ _ _ (lv_sub hl [0, 1, 2, 3, 4, 5] rfl) hP hD hS hF
            · have hF := q_ie hF c17
              refine lv_iload hx hb dX4_readNumbers_81 (lv_at hl 6 rfl) ?_
              refine lv_bipush (v := 59) hx hb dX4_readNumbers_83 (by decide) ?_
              refine lv_icmp_ne (tgt := 119) hx hb dX4_readNumbers_85 (by decide) (fun c18 => ?_) (fun c18 => ?_)
              · have hF := q_ie hF c18
                refine lv_bipush (v := -4) hx hb dX4_readNumbers_119 (by decide) ?_
                exact hRet ((-4 : Int32), x6) _ _ _ _ hF rfl dX4_readNumbers_121 hP hD hS
              · have hF := q_it hF c18
                exact K88 _ _ _ (lv_sub hl [0, 1, 2, 3, 4, 5] rfl) hP hD hS hF
          refine lv_icmp_lt (tgt := 74) hx hb dX4_readNumbers_39 (by decide) (fun c12 => ?_) (fun c12 => ?_)
          · have hF := q_it hF c12
            exact K74 _ _ _ (lv_sub hl [1, 2, 3, 4, 5, 6, 0] rfl) hP hD hS hF
          · have hF := q_ie hF c12
            refine lv_iload hx hb dX4_readNumbers_42 (lv_at hl 0 rfl) ?_
            refine lv_bipush (v := 57) hx hb dX4_readNumbers_44 (by decide) ?_
            refine lv_icmp_gt (tgt := 74) hx hb dX4_readNumbers_46 (by decide) (fun c13 => ?_) (fun c13 => ?_)
            · have hF := q_it hF c13
              exact K74 _ _ _ (lv_sub hl [1, 2, 3, 4, 5, 6, 0] rfl) hP hD hS hF
            · have hF := q_ie hF c13
              refine lv_iload hx hb dX4_readNumbers_49 (lv_at hl 4 rfl) ?_
              refine lv_iconst (v := 2) hx hb dX4_readNumbers_51 (by decide) ?_
              refine lv_icmp_ge (tgt := 74) hx hb dX4_readNumbers_52 (by decide) (fun c14 => ?_) (fun c14 => ?_)
              · have hF := q_it hF c14
                exact K74 _ _ _ (lv_sub hl [1, 2, 3, 4, 5, 6, 0] rfl) hP hD hS hF
              · have hF := q_ie hF c14
                refine lv_iload hx hb dX4_readNumbers_55 (lv_at hl 5 rfl) ?_
                refine lv_bipush (v := 10) hx hb dX4_readNumbers_57 (by decide) ?_
                refine lv_imul hx hb dX4_readNumbers_59 ?_
                refine lv_iload hx hb dX4_readNumbers_60 (lv_at hl 0 rfl) ?_
                refine lv_iadd hx hb dX4_readNumbers_62 ?_
                refine lv_bipush (v := 48) hx hb dX4_readNumbers_63 (by decide) ?_
                refine lv_isub hx hb dX4_readNumbers_65 ?_
                refine lv_topi (fun v15 ev15 => ?_)
                have hF := q_let_e hF ev15
                refine lv_istore (lv' := [(5, .int v15), (7, .int v11), (0, .ref (ad 1)), (2, .int a2), (3, .int v1), (4, .int v2), (6, .int v4)]) hx hb dX4_readNumbers_66 hl (by decide) rfl (fun ls hl => ?_)
                obtain ⟨v16, ev16⟩ : ∃ y : Int32, y = v2 + 1 := ⟨_, rfl⟩
                have hF := q_let_e hF ev16
                refine lv_iinc (v := v16) (lv' := [(4, .int v16), (5, .int v15), (7, .int v11), (0, .ref (ad 1)), (2, .int a2), (3, .int v1), (6, .int v4)]) hx hb dX4_readNumbers_68 hl (k := 5) rfl (by rw [ev16]; rfl) (by decide) rfl (fun ls hl => ?_)
                refine lv_goto (tgt := 122) hx hb dX4_readNumbers_71 (by decide) ?_
                exact K122 _ _ _ _ _ _ _ (lv_sub hl [3, 4, 5, 0, 1, 6] rfl) hP hD hS hF
  refine L11 _ _ _ _ _ _ _ _ _ _ (lv_sub hl [4, 6, 3, 2, 1, 0] rfl) hP hD hS ?_ hF
  clear hF
  intro e5 x7 H locs ls hl hP hD hS hF
  refine lv_iload_n hx hb dX4_readNumbers_128 rfl (lv_at hl 0 rfl) ?_
  exact hRet (e5, x7) _ _ _ _ hF rfl dX4_readNumbers_129 hP hD hS
theorem ky_X5_addCells : q_Y yX5_addCells cX5_addCells 3 (some .boolean) 2 := ⟨cw_X5_addCells, im_X5_addCells, se_X5_addCells, in_X5, by decide +kernel⟩
set_option maxHeartbeats 4000000 in
set_option maxRecDepth 100000 in
theorem c_X5_addCells (l : Launch) (D : va_G) (cI cJ : ClassId) (g : Nat → Nat) (ad : Nat → Nat) (j : JS) (x : IS) (a2 : Int32) (res : Int32 × IS) (hF : f_X5_addCells x a2 = some res) : q_Mi l yX5_addCells cX5_addCells 3 .boolean { frames := 1, cells := 0, slots := 0, locals := 26 } D cI cJ g (q_WX cI cJ ad x j) [.ref (ad 2), .ref (ad 8), .int a2] (res.1) (q_WX cI cJ ad (res.2) j) := by
  refine q_ofi (res := res) (fun u : Int32 × IS => u.1) (fun u : Int32 × IS => (q_WX cI cJ ad (u.2) j)) pl_X5 (Nat.le_of_ble_eq_true rfl) ?_
  intro p e s m args below meth c A Q hM hRet ls hl hP hD hS
  have hx := hM.1.1
  have hb := hM.1.2.1
  have hl : lv_has ls 3 [(0, .ref (ad 2)), (1, .ref (ad 8)), (2, .int a2)] := hl
  unfold f_X5_addCells at hF
  refine lv_iload_n hx hb dX5_addCells_0 rfl (lv_at hl 2 rfl) ?_
  refine lv_iconst (v := 1) hx hb dX5_addCells_1 (by decide) ?_
  refine lv_icmp_lt (tgt := 22) hx hb dX5_addCells_2 (by decide) (fun c1 => ?_) (fun c1 => ?_)
  · have hF := q_it hF c1
    refine lv_iconst (v := 0) hx hb dX5_addCells_22 (by decide) ?_
    exact hRet ((0 : Int32), x) _ _ _ _ hF narrow_b0 dX5_addCells_23 hP hD hS
  · have hF := q_ie hF c1
    refine lv_iload_n hx hb dX5_addCells_5 rfl (lv_at hl 2 rfl) ?_
    refine lv_aload_n hx hb dX5_addCells_6 rfl (lv_at hl 1 rfl) ?_
    refine qn_X_X4_numbers hM hP dX5_addCells_7 ?_
    refine lv_icmp_gt (tgt := 22) hx hb dX5_addCells_8 (by decide) (fun c2 => ?_) (fun c2 => ?_)
    · have hF := q_it hF c2
      refine lv_iconst (v := 0) hx hb dX5_addCells_22 (by decide) ?_
      exact hRet ((0 : Int32), x) _ _ _ _ hF narrow_b0 dX5_addCells_23 hP hD hS
    · have hF := q_ie hF c2
      refine lv_aload_n hx hb dX5_addCells_11 rfl (lv_at hl 0 rfl) ?_
      refine qg_X_X5_size hM hP fl_X5_24 dX5_addCells_12 ?_
      refine lv_iload_n hx hb dX5_addCells_15 rfl (lv_at hl 2 rfl) ?_
      refine lv_iadd hx hb dX5_addCells_16 ?_
      refine lv_bipush (v := 48) hx hb dX5_addCells_17 (by decide) ?_
      refine lv_icmp_le (tgt := 24) hx hb dX5_addCells_19 (by decide) (fun c3 => ?_) (fun c3 => ?_)
      · have hF := q_it hF c3
        refine lv_aload_n hx hb dX5_addCells_24 rfl (lv_at hl 1 rfl) ?_
        refine lv_iconst (v := 0) hx hb dX5_addCells_25 (by decide) ?_
        refine lv_aload_n hx hb dX5_addCells_26 rfl (lv_at hl 0 rfl) ?_
        refine qg_X_X5_powers hM hP fl_X5_9 dX5_addCells_27 ?_
        refine lv_aload_n hx hb dX5_addCells_30 rfl (lv_at hl 0 rfl) ?_
        refine qg_X_X5_size hM hP fl_X5_24 dX5_addCells_31 ?_
        refine lv_iload_n hx hb dX5_addCells_34 rfl (lv_at hl 2 rfl) ?_
        obtain ⟨h5, hF⟩ := q_gd_e hF
        refine qc_X4_numbers_X5_powers hM hP hD hS ml_X5_31 h5 hl.1 ⟨Nat.le_of_ble_eq_true rfl, Nat.le_of_ble_eq_true rfl⟩ dX5_addCells_35 (fun x4 H locs ex4 hP hD hS => ?_)
        have hF := q_let_e hF ex4
        refine lv_aload_n hx hb dX5_addCells_38 rfl (lv_at hl 0 rfl) ?_
        refine lv_dup hx hb dX5_addCells_39 rfl ?_
        refine qg_X_X5_size hM hP fl_X5_24 dX5_addCells_40 ?_
        refine lv_iload_n hx hb dX5_addCells_43 rfl (lv_at hl 2 rfl) ?_
        refine lv_iadd hx hb dX5_addCells_44 ?_
        refine qp_X_X5_size hM hP hD hS fl_X5_24 dX5_addCells_45 (fun x6 H locs ex6 hP hD hS => ?_)
        have hF := q_let_e hF ex6
        refine lv_iconst (v := 1) hx hb dX5_addCells_48 (by decide) ?_
        exact hRet ((1 : Int32), x6) _ _ _ _ hF narrow_b1 dX5_addCells_49 hP hD hS
      · have hF := q_ie hF c3
        refine lv_iconst (v := 0) hx hb dX5_addCells_22 (by decide) ?_
        exact hRet ((0 : Int32), x) _ _ _ _ hF narrow_b0 dX5_addCells_23 hP hD hS
theorem ky_X5_setLookTo : q_Y yX5_setLookTo cX5_setLookTo 4 (some .boolean) 2 := ⟨cw_X5_setLookTo, im_X5_setLookTo, se_X5_setLookTo, in_X5, by decide +kernel⟩
set_option maxHeartbeats 4000000 in
set_option maxRecDepth 100000 in
theorem c_X5_setLookTo (l : Launch) (D : va_G) (cI cJ : ClassId) (g : Nat → Nat) (ad : Nat → Nat) (j : JS) (x : IS) (a2 : Int32) (res : Int32 × IS) (hF : f_X5_setLookTo x a2 = some res) : q_Mi l yX5_setLookTo cX5_setLookTo 4 .boolean { frames := 1, cells := 0, slots := 0, locals := 26 } D cI cJ g (q_WX cI cJ ad x j) [.ref (ad 2), .ref (ad 8), .int a2] (res.1) (q_WX cI cJ ad (res.2) j) := by
  refine q_ofi (res := res) (fun u : Int32 × IS => u.1) (fun u : Int32 × IS => (q_WX cI cJ ad (u.2) j)) pl_X5 (Nat.le_of_ble_eq_true rfl) ?_
  intro p e s m args below meth c A Q hM hRet ls hl hP hD hS
  have hx := hM.1.1
  have hb := hM.1.2.1
  have hl : lv_has ls 4 [(0, .ref (ad 2)), (1, .ref (ad 8)), (2, .int a2)] := hl
  unfold f_X5_setLookTo at hF
  refine lv_iload_n hx hb dX5_setLookTo_0 rfl (lv_at hl 2 rfl) ?_
  refine lv_aload_n hx hb dX5_setLookTo_1 rfl (lv_at hl 0 rfl) ?_
  refine qg_X_X5_look hM hP fl_X5_18 dX5_setLookTo_2 ?_
  refine qn_X_X5_look hM hP dX5_setLookTo_5 ?_
  refine lv_icmp_ne (tgt := 15) hx hb dX5_setLookTo_6 (by decide) (fun c1 => ?_) (fun c1 => ?_)
  · have hF := q_ie hF c1
    refine lv_iconst (v := 0) hx hb dX5_setLookTo_15 (by decide) ?_
    exact hRet ((0 : Int32), x) _ _ _ _ hF narrow_b0 dX5_setLookTo_16 hP hD hS
  · have hF := q_it hF c1
    refine lv_iload_n hx hb dX5_setLookTo_9 rfl (lv_at hl 2 rfl) ?_
    refine lv_aload_n hx hb dX5_setLookTo_10 rfl (lv_at hl 1 rfl) ?_
    refine qn_X_X4_numbers hM hP dX5_setLookTo_11 ?_
    refine lv_icmp_le (tgt := 17) hx hb dX5_setLookTo_12 (by decide) (fun c2 => ?_) (fun c2 => ?_)
    · have hF := q_it hF c2
      refine lv_iconst (v := 0) hx hb dX5_setLookTo_17 (by decide) ?_
      refine lv_istore_n (lv' := [(3, .int (0 : Int32)), (0, .ref (ad 2)), (1, .ref (ad 8)), (2, .int a2)]) hx hb dX5_setLookTo_18 rfl hl (by decide) rfl (fun ls hl => ?_)
      have L19 : ∀ (k : IS → Option (Int32 × IS)) (n : Nat) (v3 : Int32) (x4 : IS) (H : Heap) (locs : List Loc) (ls : Array Slot), lv_has ls 4 [(0, .ref (ad 2)), (1, .ref (ad 8)), (2, .int a2), (3, .int v3)] → va_P D vwCl (q_WX cI cJ ad x4 j) H → va_D A (q_WX cI cJ ad x4 j) → va_S A s.heap H locs → (∀ (x5 : IS) (H : Heap) (locs : List Loc) (ls : Array Slot), lv_has ls 4 [(0, .ref (ad 2)), (1, .ref (ad 8)), (2, .int a2)] → va_P D vwCl (q_WX cI cJ ad x5 j) H → va_D A (q_WX cI cJ ad x5 j) → va_S A s.heap H locs → k x5 = some res → W p l e { frames := 1, cells := 0, slots := 0, locals := 26 } s m args below meth c H locs 0 0 Q (F0 m 42 ls [])) → f_X5_setLookTo_L19 a2 k n v3 x4 = some res → W p l e { frames := 1, cells := 0, slots := 0, locals := 26 } s m args below meth c H locs 0 0 Q (F0 m 19 ls []) := by
        intro k n
        induction n with
        | zero => intro v3 x4 H locs ls hl hP hD hS hk hF; exact q_no hF
        | succ n ih =>
          intro v3 x4 H locs ls hl hP hD hS hk hF
          have hF : f_X5_setLookTo_L19F a2 k (f_X5_setLookTo_L19 a2 k n) v3 x4 = some res := hF
          unfold f_X5_setLookTo_L19F at hF
          refine lv_iload_n hx hb dX5_setLookTo_19 rfl (lv_at hl 3 rfl) ?_
          refine lv_iload_n hx hb dX5_setLookTo_20 rfl (lv_at hl 2 rfl) ?_
          refine lv_icmp_ge (tgt := 42) hx hb dX5_setLookTo_21 (by decide) (fun c6 => ?_) (fun c6 => ?_)
          · have hF := q_it hF c6
            exact hk _ _ _ _ (lv_sub hl [0, 1, 2] rfl) hP hD hS hF
          · have hF := q_ie hF c6
            refine lv_iload_n hx hb dX5_setLookTo_24 rfl (lv_at hl 3 rfl) ?_
            refine lv_aload_n hx hb dX5_setLookTo_25 rfl (lv_at hl 1 rfl) ?_
            refine lv_iload_n hx hb dX5_setLookTo_26 rfl (lv_at hl 3 rfl) ?_
            obtain ⟨h7, hF⟩ := q_gd_e hF
            refine ql_X_X4_numbers hM hP h7 dX5_setLookTo_27 ?_
            obtain ⟨r8, hC9, hF⟩ := q_b1_e hF
            refine q_calliSN hM (c_X6_isLook l D cI cJ g (q_WX cI cJ ad x4 j) _ _ _ hC9) hP hD hS ky_X6_isLook hM.2.2.2.1.2.1 rfl rfl ⟨Nat.le_of_ble_eq_true rfl, Nat.le_of_ble_eq_true rfl⟩ rfl hl.1 rfl (Nat.le_of_ble_eq_true rfl) ⟨Nat.zero_le _, Nat.zero_le _⟩ dX5_setLookTo_28 (fun H locs hz10 hP hD hS => ?_)
            refine lv_if_ne (tgt := 36) hx hb dX5_setLookTo_31 (by decide) (fun c11 => ?_) (fun c11 => ?_)
            · have hF := q_ie hF c11
              obtain ⟨v12, ev12⟩ : ∃ y : Int32, y = v3 + 1 := ⟨_, rfl⟩
              have hF := q_let_e hF ev12
              refine lv_iinc (v := v12) (lv' := [(3, .int v12), (0, .ref (ad 2)), (1, .ref (ad 8)), (2, .int a2)]) hx hb dX5_setLookTo_36 hl (k := 3) rfl (by rw [ev12]; rfl) (by decide) rfl (fun ls hl => ?_)
              refine lv_goto (tgt := 19) hx hb dX5_setLookTo_39 (by decide) ?_
              exact ih _ _ _ _ _ (lv_sub hl [1, 2, 3, 0] rfl) hP hD hS hk hF
            · have hF := q_it hF c11
              refine lv_iconst (v := 0) hx hb dX5_setLookTo_34 (by decide) ?_
              exact hRet ((0 : Int32), x4) _ _ _ _ hF narrow_b0 dX5_setLookTo_35 hP hD hS
      refine L19 _ _ _ _ _ _ _ (lv_sub hl [1, 2, 3, 0] rfl) hP hD hS ?_ hF
      clear hF
      intro x5 H locs ls hl hP hD hS hF
      refine lv_aload_n hx hb dX5_setLookTo_42 rfl (lv_at hl 1 rfl) ?_
      refine lv_iconst (v := 0) hx hb dX5_setLookTo_43 (by decide) ?_
      refine lv_aload_n hx hb dX5_setLookTo_44 rfl (lv_at hl 0 rfl) ?_
      refine qg_X_X5_look hM hP fl_X5_18 dX5_setLookTo_45 ?_
      refine lv_iconst (v := 0) hx hb dX5_setLookTo_48 (by decide) ?_
      refine lv_iload_n hx hb dX5_setLookTo_49 rfl (lv_at hl 2 rfl) ?_
      obtain ⟨h14, hF⟩ := q_gd_e hF
      refine qc_X4_numbers_X5_look hM hP hD hS ml_X5_31 h14 hl.1 ⟨Nat.le_of_ble_eq_true rfl, Nat.le_of_ble_eq_true rfl⟩ dX5_setLookTo_50 (fun x13 H locs ex13 hP hD hS => ?_)
      have hF := q_let_e hF ex13
      refine lv_iconst (v := 1) hx hb dX5_setLookTo_53 (by decide) ?_
      exact hRet ((1 : Int32), x13) _ _ _ _ hF narrow_b1 dX5_setLookTo_54 hP hD hS
    · have hF := q_ie hF c2
      refine lv_iconst (v := 0) hx hb dX5_setLookTo_15 (by decide) ?_
      exact hRet ((0 : Int32), x) _ _ _ _ hF narrow_b0 dX5_setLookTo_16 hP hD hS
theorem ky_J7_fill_53178__X5_weights : q_YS yJ7_fill_53178 cJ7_fill_53178 4 none 2 := ⟨cw_J7_fill_53178, st_J7_fill_53178, in_J7, by decide +kernel⟩
set_option maxHeartbeats 4000000 in
set_option maxRecDepth 100000 in
theorem c_J7_fill_53178__X5_weights (l : Launch) (D : va_G) (cI cJ : ClassId) (g : Nat → Nat) (ad : Nat → Nat) (j : JS) (x : IS) (a2 : Int32) (res : IS) (hF : f_J7_fill_53178__X5_weights x a2 = some res) : q_Mv l yJ7_fill_53178 cJ7_fill_53178 4 { frames := 0, cells := 0, slots := 0, locals := 0 } D cI cJ g (q_WX cI cJ ad x j) [.ref (ad 11), .int a2] (q_WX cI cJ ad res j) := by
  refine q_ofv (res := res) (fun u : IS => (q_WX cI cJ ad u j)) pl_J7 (Nat.le_of_ble_eq_true rfl) ?_
  intro p e s m args below meth c A Q hM hRet ls hl hP hD hS
  have hx := hM.1.1
  have hb := hM.1.2.1
  have hl : lv_has ls 4 [(0, .ref (ad 11)), (1, .int a2)] := hl
  unfold f_J7_fill_53178__X5_weights at hF
  refine lv_iconst (v := 0) hx hb dJ7_fill_53178_0 (by decide) ?_
  refine lv_istore_n (lv' := [(2, .int (0 : Int32)), (0, .ref (ad 11)), (1, .int a2)]) hx hb dJ7_fill_53178_1 rfl hl (by decide) rfl (fun ls hl => ?_)
  refine lv_aload_n hx hb dJ7_fill_53178_2 rfl (lv_at hl 1 rfl) ?_
  refine qn_X_X5_weights hM hP dJ7_fill_53178_3 ?_
  refine lv_istore_n (lv' := [(3, .int (8 : Int32)), (2, .int (0 : Int32)), (0, .ref (ad 11)), (1, .int a2)]) hx hb dJ7_fill_53178_4 rfl hl (by decide) rfl (fun ls hl => ?_)
  have L5 : ∀ (k : IS → Option (IS)) (n : Nat) (v1 : Int32) (x2 : IS) (H : Heap) (locs : List Loc) (ls : Array Slot), lv_has ls 4 [(0, .ref (ad 11)), (1, .int a2), (2, .int v1), (3, .int (8 : Int32))] → va_P D vwCl (q_WX cI cJ ad x2 j) H → va_D A (q_WX cI cJ ad x2 j) → va_S A s.heap H locs → (∀ (x3 : IS) (H : Heap) (locs : List Loc) (ls : Array Slot), lv_has ls 4 [] → va_P D vwCl (q_WX cI cJ ad x3 j) H → va_D A (q_WX cI cJ ad x3 j) → va_S A s.heap H locs → k x3 = some res → W p l e { frames := 0, cells := 0, slots := 0, locals := 0 } s m args below meth c H locs 0 0 Q (F0 m 20 ls [])) → f_J7_fill_53178__X5_weights_L5 a2 k n v1 x2 = some res → W p l e { frames := 0, cells := 0, slots := 0, locals := 0 } s m args below meth c H locs 0 0 Q (F0 m 5 ls []) := by
    intro k n
    induction n with
    | zero => intro v1 x2 H locs ls hl hP hD hS hk hF; exact q_no hF
    | succ n ih =>
      intro v1 x2 H locs ls hl hP hD hS hk hF
      have hF : f_J7_fill_53178__X5_weights_L5F a2 k (f_J7_fill_53178__X5_weights_L5 a2 k n) v1 x2 = some res := hF
      unfold f_J7_fill_53178__X5_weights_L5F at hF
      refine lv_iload_n hx hb dJ7_fill_53178_5 rfl (lv_at hl 2 rfl) ?_
      refine lv_iload_n hx hb dJ7_fill_53178_6 rfl (lv_at hl 3 rfl) ?_
      refine lv_icmp_ge (tgt := 20) hx hb dJ7_fill_53178_7 (by decide) (fun c4 => ?_) (fun c4 => ?_)
      · have hF := q_it hF c4
        exact hk _ _ _ _ (lv_sub hl [] rfl) hP hD hS hF
      · have hF := q_ie hF c4
        refine lv_aload_n hx hb dJ7_fill_53178_10 rfl (lv_at hl 0 rfl) ?_
        refine lv_iload_n hx hb dJ7_fill_53178_11 rfl (lv_at hl 2 rfl) ?_
        refine lv_iload_n hx hb dJ7_fill_53178_12 rfl (lv_at hl 1 rfl) ?_
        obtain ⟨h5, hF⟩ := q_gd_e hF
        refine qs_X_X5_weights hM hP hD hS h5 dJ7_fill_53178_13 (fun x6 H locs ex6 hP hD hS => ?_)
        have hF := q_let_e hF ex6
        obtain ⟨v7, ev7⟩ : ∃ y : Int32, y = v1 + 1 := ⟨_, rfl⟩
        have hF := q_let_e hF ev7
        refine lv_iinc (v := v7) (lv' := [(2, .int v7), (0, .ref (ad 11)), (1, .int a2), (3, .int (8 : Int32))]) hx hb dJ7_fill_53178_14 hl (k := 2) rfl (by rw [ev7]; rfl) (by decide) rfl (fun ls hl => ?_)
        refine lv_goto (tgt := 5) hx hb dJ7_fill_53178_17 (by decide) ?_
        exact ih _ _ _ _ _ (lv_sub hl [1, 2, 0, 3] rfl) hP hD hS hk hF
  refine L5 _ _ _ _ _ _ _ (lv_sub hl [2, 3, 1, 0] rfl) hP hD hS ?_ hF
  clear hF
  intro x3 H locs ls hl hP hD hS hF
  exact hRet _ _ _ _ _ hF dJ7_fill_53178_20 hP hD hS
theorem ky_X5_setWeightsTo : q_Y yX5_setWeightsTo cX5_setWeightsTo 5 (some .boolean) 2 := ⟨cw_X5_setWeightsTo, im_X5_setWeightsTo, se_X5_setWeightsTo, in_X5, by decide +kernel⟩
set_option maxHeartbeats 4000000 in
set_option maxRecDepth 100000 in
theorem c_X5_setWeightsTo (l : Launch) (D : va_G) (cI cJ : ClassId) (g : Nat → Nat) (ad : Nat → Nat) (j : JS) (x : IS) (a2 : Int32) (res : Int32 × IS) (hF : f_X5_setWeightsTo x a2 = some res) : q_Mi l yX5_setWeightsTo cX5_setWeightsTo 5 .boolean { frames := 1, cells := 0, slots := 0, locals := 26 } D cI cJ g (q_WX cI cJ ad x j) [.ref (ad 2), .ref (ad 8), .int a2] (res.1) (q_WX cI cJ ad (res.2) j) := by
  refine q_ofi (res := res) (fun u : Int32 × IS => u.1) (fun u : Int32 × IS => (q_WX cI cJ ad (u.2) j)) pl_X5 (Nat.le_of_ble_eq_true rfl) ?_
  intro p e s m args below meth c A Q hM hRet ls hl hP hD hS
  have hx := hM.1.1
  have hb := hM.1.2.1
  have hl : lv_has ls 5 [(0, .ref (ad 2)), (1, .ref (ad 8)), (2, .int a2)] := hl
  unfold f_X5_setWeightsTo at hF
  refine lv_iload_n hx hb dX5_setWeightsTo_0 rfl (lv_at hl 2 rfl) ?_
  refine lv_iconst (v := 2) hx hb dX5_setWeightsTo_1 (by decide) ?_
  refine lv_icmp_lt (tgt := 17) hx hb dX5_setWeightsTo_2 (by decide) (fun c1 => ?_) (fun c1 => ?_)
  · have hF := q_it hF c1
    refine lv_iconst (v := 0) hx hb dX5_setWeightsTo_17 (by decide) ?_
    exact hRet ((0 : Int32), x) _ _ _ _ hF narrow_b0 dX5_setWeightsTo_18 hP hD hS
  · have hF := q_ie hF c1
    refine lv_iload_n hx hb dX5_setWeightsTo_5 rfl (lv_at hl 2 rfl) ?_
    refine lv_bipush (v := 8) hx hb dX5_setWeightsTo_6 (by decide) ?_
    refine lv_icmp_gt (tgt := 17) hx hb dX5_setWeightsTo_8 (by decide) (fun c2 => ?_) (fun c2 => ?_)
    · have hF := q_it hF c2
      refine lv_iconst (v := 0) hx hb dX5_setWeightsTo_17 (by decide) ?_
      exact hRet ((0 : Int32), x) _ _ _ _ hF narrow_b0 dX5_setWeightsTo_18 hP hD hS
    · have hF := q_ie hF c2
      refine lv_iload_n hx hb dX5_setWeightsTo_11 rfl (lv_at hl 2 rfl) ?_
      refine lv_aload_n hx hb dX5_setWeightsTo_12 rfl (lv_at hl 1 rfl) ?_
      refine qn_X_X4_numbers hM hP dX5_setWeightsTo_13 ?_
      refine lv_icmp_le (tgt := 19) hx hb dX5_setWeightsTo_14 (by decide) (fun c3 => ?_) (fun c3 => ?_)
      · have hF := q_it hF c3
        refine lv_iconst (v := 0) hx hb dX5_setWeightsTo_19 (by decide) ?_
        refine lv_istore_n (lv' := [(3, .int (0 : Int32)), (0, .ref (ad 2)), (1, .ref (ad 8)), (2, .int a2)]) hx hb dX5_setWeightsTo_20 rfl hl (by decide) rfl (fun ls hl => ?_)
        refine lv_iconst (v := 0) hx hb dX5_setWeightsTo_21 (by decide) ?_
        refine lv_istore (lv' := [(4, .int (0 : Int32)), (3, .int (0 : Int32)), (0, .ref (ad 2)), (1, .ref (ad 8)), (2, .int a2)]) hx hb dX5_setWeightsTo_22 hl (by decide) rfl (fun ls hl => ?_)
        have L24 : ∀ (k : Int32 → IS → Option (Int32 × IS)) (n : Nat) (v4 : Int32) (v5 : Int32) (x7 : IS) (H : Heap) (locs : List Loc) (ls : Array Slot), lv_has ls 5 [(0, .ref (ad 2)), (1, .ref (ad 8)), (2, .int a2), (3, .int v4), (4, .int v5)] → va_P D vwCl (q_WX cI cJ ad x7 j) H → va_D A (q_WX cI cJ ad x7 j) → va_S A s.heap H locs → (∀ (e6 : Int32) (x8 : IS) (H : Heap) (locs : List Loc) (ls : Array Slot), lv_has ls 5 [(0, .ref (ad 2)), (1, .ref (ad 8)), (2, .int a2), (3, .int e6)] → va_P D vwCl (q_WX cI cJ ad x8 j) H → va_D A (q_WX cI cJ ad x8 j) → va_S A s.heap H locs → k e6 x8 = some res → W p l e { frames := 1, cells := 0, slots := 0, locals := 26 } s m args below meth c H locs 0 0 Q (F0 m 43 ls [])) → f_X5_setWeightsTo_L24 a2 k n v4 v5 x7 = some res → W p l e { frames := 1, cells := 0, slots := 0, locals := 26 } s m args below meth c H locs 0 0 Q (F0 m 24 ls []) := by
          intro k n
          induction n with
          | zero => intro v4 v5 x7 H locs ls hl hP hD hS hk hF; exact q_no hF
          | succ n ih =>
            intro v4 v5 x7 H locs ls hl hP hD hS hk hF
            have hF : f_X5_setWeightsTo_L24F a2 k (f_X5_setWeightsTo_L24 a2 k n) v4 v5 x7 = some res := hF
            unfold f_X5_setWeightsTo_L24F at hF
            refine lv_iload hx hb dX5_setWeightsTo_24 (lv_at hl 4 rfl) ?_
            refine lv_iload_n hx hb dX5_setWeightsTo_26 rfl (lv_at hl 2 rfl) ?_
            refine lv_icmp_ge (tgt := 43) hx hb dX5_setWeightsTo_27 (by decide) (fun c9 => ?_) (fun c9 => ?_)
            · have hF := q_it hF c9
              exact hk _ _ _ _ _ (lv_sub hl [0, 1, 2, 3] rfl) hP hD hS hF
            · have hF := q_ie hF c9
              refine lv_iload_n hx hb dX5_setWeightsTo_30 rfl (lv_at hl 3 rfl) ?_
              refine lv_aload_n hx hb dX5_setWeightsTo_31 rfl (lv_at hl 1 rfl) ?_
              refine lv_iload hx hb dX5_setWeightsTo_32 (lv_at hl 4 rfl) ?_
              obtain ⟨h10, hF⟩ := q_gd_e hF
              refine ql_X_X4_numbers hM hP h10 dX5_setWeightsTo_34 ?_
              refine lv_iadd hx hb dX5_setWeightsTo_35 ?_
              refine lv_topi (fun v11 ev11 => ?_)
              have hF := q_let_e hF ev11
              refine lv_istore_n (lv' := [(3, .int v11), (0, .ref (ad 2)), (1, .ref (ad 8)), (2, .int a2), (4, .int v5)]) hx hb dX5_setWeightsTo_36 rfl hl (by decide) rfl (fun ls hl => ?_)
              obtain ⟨v12, ev12⟩ : ∃ y : Int32, y = v5 + 1 := ⟨_, rfl⟩
              have hF := q_let_e hF ev12
              refine lv_iinc (v := v12) (lv' := [(4, .int v12), (3, .int v11), (0, .ref (ad 2)), (1, .ref (ad 8)), (2, .int a2)]) hx hb dX5_setWeightsTo_37 hl (k := 4) rfl (by rw [ev12]; rfl) (by decide) rfl (fun ls hl => ?_)
              refine lv_goto (tgt := 24) hx hb dX5_setWeightsTo_40 (by decide) ?_
              exact ih _ _ _ _ _ _ (lv_sub hl [2, 3, 4, 1, 0] rfl) hP hD hS hk hF
        refine L24 _ _ _ _ _ _ _ _ (lv_sub hl [2, 3, 4, 1, 0] rfl) hP hD hS ?_ hF
        clear hF
        intro e6 x8 H locs ls hl hP hD hS hF
        refine lv_iload_n hx hb dX5_setWeightsTo_43 rfl (lv_at hl 3 rfl) ?_
        refine lv_iconst (v := 1) hx hb dX5_setWeightsTo_44 (by decide) ?_
        refine lv_icmp_lt (tgt := 54) hx hb dX5_setWeightsTo_45 (by decide) (fun c13 => ?_) (fun c13 => ?_)
        · have hF := q_it hF c13
          refine lv_iconst (v := 0) hx hb dX5_setWeightsTo_54 (by decide) ?_
          exact hRet ((0 : Int32), x8) _ _ _ _ hF narrow_b0 dX5_setWeightsTo_55 hP hD hS
        · have hF := q_ie hF c13
          refine lv_iload_n hx hb dX5_setWeightsTo_48 rfl (lv_at hl 3 rfl) ?_
          refine lv_bipush (v := 16) hx hb dX5_setWeightsTo_49 (by decide) ?_
          refine lv_icmp_le (tgt := 56) hx hb dX5_setWeightsTo_51 (by decide) (fun c14 => ?_) (fun c14 => ?_)
          · have hF := q_it hF c14
            refine lv_aload_n hx hb dX5_setWeightsTo_56 rfl (lv_at hl 0 rfl) ?_
            refine qg_X_X5_weights hM hP fl_X5_21 dX5_setWeightsTo_57 ?_
            refine lv_iconst (v := 0) hx hb dX5_setWeightsTo_60 (by decide) ?_
            obtain ⟨x15, hC16, hF⟩ := q_b1_e hF
            refine q_callvS hM (c_J7_fill_53178__X5_weights l D cI cJ g ad j _ _ _ hC16) hP hD hS ky_J7_fill_53178__X5_weights ml_X5_44 rfl rfl ⟨Nat.le_of_ble_eq_true rfl, Nat.le_of_ble_eq_true rfl⟩ rfl hl.1 rfl (Nat.le_of_ble_eq_true rfl) ⟨Nat.zero_le _, Nat.zero_le _⟩ dX5_setWeightsTo_61 (fun H locs hP hD hS => ?_)
            refine lv_aload_n hx hb dX5_setWeightsTo_64 rfl (lv_at hl 1 rfl) ?_
            refine lv_iconst (v := 0) hx hb dX5_setWeightsTo_65 (by decide) ?_
            refine lv_aload_n hx hb dX5_setWeightsTo_66 rfl (lv_at hl 0 rfl) ?_
            refine qg_X_X5_weights hM hP fl_X5_21 dX5_setWeightsTo_67 ?_
            refine lv_iconst (v := 0) hx hb dX5_setWeightsTo_70 (by decide) ?_
            refine lv_iload_n hx hb dX5_setWeightsTo_71 rfl (lv_at hl 2 rfl) ?_
            obtain ⟨h18, hF⟩ := q_gd_e hF
            refine qc_X4_numbers_X5_weights hM hP hD hS ml_X5_31 h18 hl.1 ⟨Nat.le_of_ble_eq_true rfl, Nat.le_of_ble_eq_true rfl⟩ dX5_setWeightsTo_72 (fun x17 H locs ex17 hP hD hS => ?_)
            have hF := q_let_e hF ex17
            refine lv_iconst (v := 1) hx hb dX5_setWeightsTo_75 (by decide) ?_
            exact hRet ((1 : Int32), x17) _ _ _ _ hF narrow_b1 dX5_setWeightsTo_76 hP hD hS
          · have hF := q_ie hF c14
            refine lv_iconst (v := 0) hx hb dX5_setWeightsTo_54 (by decide) ?_
            exact hRet ((0 : Int32), x8) _ _ _ _ hF narrow_b0 dX5_setWeightsTo_55 hP hD hS
      · have hF := q_ie hF c3
        refine lv_iconst (v := 0) hx hb dX5_setWeightsTo_17 (by decide) ?_
        exact hRet ((0 : Int32), x) _ _ _ _ hF narrow_b0 dX5_setWeightsTo_18 hP hD hS
theorem ky_X4_readItem : q_Y yX4_readItem cX4_readItem 5 (some .boolean) 3 := ⟨cw_X4_readItem, im_X4_readItem, se_X4_readItem, in_X4, by decide +kernel⟩
set_option maxHeartbeats 4000000 in
set_option maxRecDepth 100000 in
theorem c_X4_readItem (l : Launch) (D : va_G) (cI cJ : ClassId) (g : Nat → Nat) (ad : Nat → Nat) (j : JS) (x : IS) (a1 : Int32) (a2 : Int32) (res : Int32 × IS) (hF : f_X4_readItem x a1 a2 = some res) : q_Mi l yX4_readItem cX4_readItem 5 .boolean { frames := 6, cells := 0, slots := 0, locals := 132 } D cI cJ g (q_WX cI cJ ad x j) [.ref (ad 1), .int a1, .int a2, .ref (ad 2)] (res.1) (q_WX cI cJ ad (res.2) j) := by
  refine q_ofi (res := res) (fun u : Int32 × IS => u.1) (fun u : Int32 × IS => (q_WX cI cJ ad (u.2) j)) pl_X4 (Nat.le_of_ble_eq_true rfl) ?_
  intro p e s m args below meth c A Q hM hRet ls hl hP hD hS
  have hx := hM.1.1
  have hb := hM.1.2.1
  have hl : lv_has ls 5 [(0, .ref (ad 1)), (1, .int a1), (2, .int a2), (3, .ref (ad 2))] := hl
  unfold f_X4_readItem at hF
  refine lv_iload_n hx hb dX4_readItem_0 rfl (lv_at hl 1 rfl) ?_
  refine lv_iconst (v := 5) hx hb dX4_readItem_1 (by decide) ?_
  refine lv_iadd hx hb dX4_readItem_2 ?_
  refine lv_topi (fun v1 ev1 => ?_)
  have hF := q_let_e hF ev1
  refine lv_istore (lv' := [(4, .int v1), (0, .ref (ad 1)), (1, .int a1), (2, .int a2), (3, .ref (ad 2))]) hx hb dX4_readItem_3 hl (by decide) rfl (fun ls hl => ?_)
  refine lv_aload_n hx hb dX4_readItem_5 rfl (lv_at hl 1 rfl) ?_
  refine qk_0 hM dX4_readItem_6 ?_
  refine lv_iload_n hx hb dX4_readItem_8 rfl (lv_at hl 2 rfl) ?_
  refine lv_iload hx hb dX4_readItem_9 (lv_at hl 0 rfl) ?_
  obtain ⟨r2, hC3, hF⟩ := q_b1_e hF
  refine q_calli hM (c_X4_stands l D cI cJ g ad j _ _ _ _ _ hC3) hP hD hS ky_X4_stands ml_X4_37 rfl rfl ⟨Nat.le_of_ble_eq_true rfl, Nat.le_of_ble_eq_true rfl⟩ 1 rfl rfl rfl hl.1 rfl (Nat.le_of_ble_eq_true rfl) ⟨Nat.zero_le _, Nat.zero_le _⟩ dX4_readItem_11 (fun H locs hz4 hP hD hS => ?_)
  refine lv_if_eq (tgt := 26) hx hb dX4_readItem_14 (by decide) (fun c5 => ?_) (fun c5 => ?_)
  · have hF := q_it hF c5
    refine lv_aload_n hx hb dX4_readItem_26 rfl (lv_at hl 1 rfl) ?_
    refine qk_1 hM dX4_readItem_27 ?_
    refine lv_iload_n hx hb dX4_readItem_29 rfl (lv_at hl 2 rfl) ?_
    refine lv_iload hx hb dX4_readItem_30 (lv_at hl 0 rfl) ?_
    obtain ⟨r6, hC7, hF⟩ := q_b1_e hF
    refine q_calli hM (c_X4_stands l D cI cJ g ad j _ _ _ _ _ hC7) hP hD hS ky_X4_stands ml_X4_37 rfl rfl ⟨Nat.le_of_ble_eq_true rfl, Nat.le_of_ble_eq_true rfl⟩ 1 rfl rfl rfl hl.1 rfl (Nat.le_of_ble_eq_true rfl) ⟨Nat.zero_le _, Nat.zero_le _⟩ dX4_readItem_32 (fun H locs hz8 hP hD hS => ?_)
    refine lv_if_eq (tgt := 54) hx hb dX4_readItem_35 (by decide) (fun c9 => ?_) (fun c9 => ?_)
    · have hF := q_it hF c9
      refine lv_aload_n hx hb dX4_readItem_54 rfl (lv_at hl 1 rfl) ?_
      refine qk_2 hM dX4_readItem_55 ?_
      refine lv_iload_n hx hb dX4_readItem_57 rfl (lv_at hl 2 rfl) ?_
      refine lv_iload hx hb dX4_readItem_58 (lv_at hl 0 rfl) ?_
      obtain ⟨r10, hC11, hF⟩ := q_b1_e hF
      refine q_calli hM (c_X4_stands l D cI cJ g ad j _ _ _ _ _ hC11) hP hD hS ky_X4_stands ml_X4_37 rfl rfl ⟨Nat.le_of_ble_eq_true rfl, Nat.le_of_ble_eq_true rfl⟩ 1 rfl rfl rfl hl.1 rfl (Nat.le_of_ble_eq_true rfl) ⟨Nat.zero_le _, Nat.zero_le _⟩ dX4_readItem_60 (fun H locs hz12 hP hD hS => ?_)
      refine lv_if_eq (tgt := 82) hx hb dX4_readItem_63 (by decide) (fun c13 => ?_) (fun c13 => ?_)
      · have hF := q_it hF c13
        refine lv_aload_n hx hb dX4_readItem_82 rfl (lv_at hl 1 rfl) ?_
        refine qk_3 hM dX4_readItem_83 ?_
        refine lv_iload_n hx hb dX4_readItem_85 rfl (lv_at hl 2 rfl) ?_
        refine lv_iload hx hb dX4_readItem_86 (lv_at hl 0 rfl) ?_
        obtain ⟨r14, hC15, hF⟩ := q_b1_e hF
        refine q_calli hM (c_X4_stands l D cI cJ g ad j _ _ _ _ _ hC15) hP hD hS ky_X4_stands ml_X4_37 rfl rfl ⟨Nat.le_of_ble_eq_true rfl, Nat.le_of_ble_eq_true rfl⟩ 1 rfl rfl rfl hl.1 rfl (Nat.le_of_ble_eq_true rfl) ⟨Nat.zero_le _, Nat.zero_le _⟩ dX4_readItem_88 (fun H locs hz16 hP hD hS => ?_)
        refine lv_if_eq (tgt := 110) hx hb dX4_readItem_91 (by decide) (fun c17 => ?_) (fun c17 => ?_)
        · have hF := q_it hF c17
          refine lv_iconst (v := 0) hx hb dX4_readItem_110 (by decide) ?_
          exact hRet ((0 : Int32), x) _ _ _ _ hF narrow_b0 dX4_readItem_111 hP hD hS
        · have hF := q_ie hF c17
          refine lv_aload_n hx hb dX4_readItem_94 rfl (lv_at hl 4 rfl) ?_
          refine lv_aload_n hx hb dX4_readItem_95 rfl (lv_at hl 1 rfl) ?_
          refine qg_X_X4_numbers hM hP fl_X4_15 dX4_readItem_96 ?_
          refine lv_aload_n hx hb dX4_readItem_99 rfl (lv_at hl 1 rfl) ?_
          refine lv_iload hx hb dX4_readItem_100 (lv_at hl 0 rfl) ?_
          refine lv_iload_n hx hb dX4_readItem_102 rfl (lv_at hl 3 rfl) ?_
          obtain ⟨r18, x19, hC20, hF⟩ := q_b2_e hF
          refine q_calli hM (c_X4_readNumbers l D cI cJ g ad j _ _ _ _ hC20) hP hD hS ky_X4_readNumbers ml_X4_46 rfl rfl ⟨Nat.le_of_ble_eq_true rfl, Nat.le_of_ble_eq_true rfl⟩ 1 rfl rfl rfl hl.1 rfl (Nat.le_of_ble_eq_true rfl) ⟨Nat.zero_le _, Nat.zero_le _⟩ dX4_readItem_103 (fun H locs hz21 hP hD hS => ?_)
          obtain ⟨r22, x23, hC24, hF⟩ := q_b2_e hF
          refine q_calli hM (c_X5_setWeightsTo l D cI cJ g ad j _ _ _ hC24) hP hD hS ky_X5_setWeightsTo ml_X4_61 rfl rfl ⟨Nat.le_of_ble_eq_true rfl, Nat.le_of_ble_eq_true rfl⟩ 2 rfl rfl rfl hl.1 rfl (Nat.le_of_ble_eq_true rfl) ⟨Nat.zero_le _, Nat.zero_le _⟩ dX4_readItem_106 (fun H locs hz25 hP hD hS => ?_)
          exact hRet (r22, x23) _ _ _ _ hF hz25 dX4_readItem_109 hP hD hS
      · have hF := q_ie hF c13
        refine lv_aload_n hx hb dX4_readItem_66 rfl (lv_at hl 4 rfl) ?_
        refine lv_aload_n hx hb dX4_readItem_67 rfl (lv_at hl 1 rfl) ?_
        refine qg_X_X4_numbers hM hP fl_X4_15 dX4_readItem_68 ?_
        refine lv_aload_n hx hb dX4_readItem_71 rfl (lv_at hl 1 rfl) ?_
        refine lv_iload hx hb dX4_readItem_72 (lv_at hl 0 rfl) ?_
        refine lv_iload_n hx hb dX4_readItem_74 rfl (lv_at hl 3 rfl) ?_
        obtain ⟨r26, x27, hC28, hF⟩ := q_b2_e hF
        refine q_calli hM (c_X4_readNumbers l D cI cJ g ad j _ _ _ _ hC28) hP hD hS ky_X4_readNumbers ml_X4_46 rfl rfl ⟨Nat.le_of_ble_eq_true rfl, Nat.le_of_ble_eq_true rfl⟩ 1 rfl rfl rfl hl.1 rfl (Nat.le_of_ble_eq_true rfl) ⟨Nat.zero_le _, Nat.zero_le _⟩ dX4_readItem_75 (fun H locs hz29 hP hD hS => ?_)
        obtain ⟨r30, x31, hC32, hF⟩ := q_b2_e hF
        refine q_calli hM (c_X5_setLookTo l D cI cJ g ad j _ _ _ hC32) hP hD hS ky_X5_setLookTo ml_X4_56 rfl rfl ⟨Nat.le_of_ble_eq_true rfl, Nat.le_of_ble_eq_true rfl⟩ 2 rfl rfl rfl hl.1 rfl (Nat.le_of_ble_eq_true rfl) ⟨Nat.zero_le _, Nat.zero_le _⟩ dX4_readItem_78 (fun H locs hz33 hP hD hS => ?_)
        exact hRet (r30, x31) _ _ _ _ hF hz33 dX4_readItem_81 hP hD hS
    · have hF := q_ie hF c9
      refine lv_aload_n hx hb dX4_readItem_38 rfl (lv_at hl 4 rfl) ?_
      refine lv_aload_n hx hb dX4_readItem_39 rfl (lv_at hl 1 rfl) ?_
      refine qg_X_X4_numbers hM hP fl_X4_15 dX4_readItem_40 ?_
      refine lv_aload_n hx hb dX4_readItem_43 rfl (lv_at hl 1 rfl) ?_
      refine lv_iload hx hb dX4_readItem_44 (lv_at hl 0 rfl) ?_
      refine lv_iload_n hx hb dX4_readItem_46 rfl (lv_at hl 3 rfl) ?_
      obtain ⟨r34, x35, hC36, hF⟩ := q_b2_e hF
      refine q_calli hM (c_X4_readNumbers l D cI cJ g ad j _ _ _ _ hC36) hP hD hS ky_X4_readNumbers ml_X4_46 rfl rfl ⟨Nat.le_of_ble_eq_true rfl, Nat.le_of_ble_eq_true rfl⟩ 1 rfl rfl rfl hl.1 rfl (Nat.le_of_ble_eq_true rfl) ⟨Nat.zero_le _, Nat.zero_le _⟩ dX4_readItem_47 (fun H locs hz37 hP hD hS => ?_)
      obtain ⟨r38, x39, hC40, hF⟩ := q_b2_e hF
      refine q_calli hM (c_X5_addCells l D cI cJ g ad j _ _ _ hC40) hP hD hS ky_X5_addCells ml_X4_50 rfl rfl ⟨Nat.le_of_ble_eq_true rfl, Nat.le_of_ble_eq_true rfl⟩ 2 rfl rfl rfl hl.1 rfl (Nat.le_of_ble_eq_true rfl) ⟨Nat.zero_le _, Nat.zero_le _⟩ dX4_readItem_50 (fun H locs hz41 hP hD hS => ?_)
      exact hRet (r38, x39) _ _ _ _ hF hz41 dX4_readItem_53 hP hD hS
  · have hF := q_ie hF c5
    refine lv_aload_n hx hb dX4_readItem_17 rfl (lv_at hl 1 rfl) ?_
    refine lv_iload hx hb dX4_readItem_18 (lv_at hl 0 rfl) ?_
    refine lv_iload_n hx hb dX4_readItem_20 rfl (lv_at hl 3 rfl) ?_
    refine lv_aload_n hx hb dX4_readItem_21 rfl (lv_at hl 4 rfl) ?_
    obtain ⟨r42, x43, hC44, hF⟩ := q_b2_e hF
    refine q_calli hM (c_X4_readMode l D cI cJ g ad j _ _ _ _ hC44) hP hD hS ky_X4_readMode ml_X4_41 rfl rfl ⟨Nat.le_of_ble_eq_true rfl, Nat.le_of_ble_eq_true rfl⟩ 1 rfl rfl rfl hl.1 rfl (Nat.le_of_ble_eq_true rfl) ⟨Nat.zero_le _, Nat.zero_le _⟩ dX4_readItem_22 (fun H locs hz45 hP hD hS => ?_)
    exact hRet (r42, x43) _ _ _ _ hF hz45 dX4_readItem_25 hP hD hS
theorem ky_X4_readInto : q_Y yX4_readInto cX4_readInto 5 (some .int) 1 := ⟨cw_X4_readInto, im_X4_readInto, se_X4_readInto, in_X4, by decide +kernel⟩
set_option maxHeartbeats 4000000 in
set_option maxRecDepth 100000 in
theorem c_X4_readInto (l : Launch) (D : va_G) (cI cJ : ClassId) (g : Nat → Nat) (ad : Nat → Nat) (j : JS) (x : IS) (res : Int32 × IS) (hF : f_X4_readInto x = some res) : q_Mi l yX4_readInto cX4_readInto 5 .int { frames := 7, cells := 0, slots := 0, locals := 156 } D cI cJ g (q_WX cI cJ ad x j) [.ref (ad 1), .ref (ad 2)] (res.1) (q_WX cI cJ ad (res.2) j) := by
  refine q_ofi (res := res) (fun u : Int32 × IS => u.1) (fun u : Int32 × IS => (q_WX cI cJ ad (u.2) j)) pl_X4 (Nat.le_of_ble_eq_true rfl) ?_
  intro p e s m args below meth c A Q hM hRet ls hl hP hD hS
  have hx := hM.1.1
  have hb := hM.1.2.1
  have hl : lv_has ls 5 [(0, .ref (ad 1)), (1, .ref (ad 2))] := hl
  unfold f_X4_readInto at hF
  refine lv_aload_n hx hb dX4_readInto_0 rfl (lv_at hl 1 rfl) ?_
  obtain ⟨x1, hC2, hF⟩ := q_b1_e hF
  refine q_callv hM (c_X5_startAnew l D cI cJ g ad j _ _ hC2) hP hD hS ky_X5_startAnew ml_X4_22 rfl rfl ⟨Nat.le_of_ble_eq_true rfl, Nat.le_of_ble_eq_true rfl⟩ 2 rfl rfl rfl hl.1 rfl (Nat.le_of_ble_eq_true rfl) ⟨Nat.zero_le _, Nat.zero_le _⟩ dX4_readInto_1 (fun H locs hP hD hS => ?_)
  refine lv_iconst (v := 0) hx hb dX4_readInto_4 (by decide) ?_
  refine lv_istore_n (lv' := [(2, .int (0 : Int32)), (0, .ref (ad 1)), (1, .ref (ad 2))]) hx hb dX4_readInto_5 rfl hl (by decide) rfl (fun ls hl => ?_)
  refine lv_iconst (v := 0) hx hb dX4_readInto_6 (by decide) ?_
  refine lv_istore_n (lv' := [(3, .int (0 : Int32)), (2, .int (0 : Int32)), (0, .ref (ad 1)), (1, .ref (ad 2))]) hx hb dX4_readInto_7 rfl hl (by decide) rfl (fun ls hl => ?_)
  have L8 : ∀ (k : IS → Option (Int32 × IS)) (n : Nat) (v3 : Int32) (v4 : Int32) (x5 : IS) (H : Heap) (locs : List Loc) (ls : Array Slot), lv_has ls 5 [(0, .ref (ad 1)), (1, .ref (ad 2)), (2, .int v3), (3, .int v4)] → va_P D vwCl (q_WX cI cJ ad x5 j) H → va_D A (q_WX cI cJ ad x5 j) → va_S A s.heap H locs → (∀ (x6 : IS) (H : Heap) (locs : List Loc) (ls : Array Slot), lv_has ls 5 [] → va_P D vwCl (q_WX cI cJ ad x6 j) H → va_D A (q_WX cI cJ ad x6 j) → va_S A s.heap H locs → k x6 = some res → W p l e { frames := 7, cells := 0, slots := 0, locals := 156 } s m args below meth c H locs 0 0 Q (F0 m 61 ls [])) → f_X4_readInto_L8 k n v3 v4 x5 = some res → W p l e { frames := 7, cells := 0, slots := 0, locals := 156 } s m args below meth c H locs 0 0 Q (F0 m 8 ls []) := by
    intro k n
    induction n with
    | zero => intro v3 v4 x5 H locs ls hl hP hD hS hk hF; exact q_no hF
    | succ n ih =>
      intro v3 v4 x5 H locs ls hl hP hD hS hk hF
      have hF : f_X4_readInto_L8F k (f_X4_readInto_L8 k n) v3 v4 x5 = some res := hF
      unfold f_X4_readInto_L8F at hF
      refine lv_iload_n hx hb dX4_readInto_8 rfl (lv_at hl 3 rfl) ?_
      refine lv_sipush (v := 200) hx hb dX4_readInto_9 (by decide) ?_
      refine lv_icmp_ge (tgt := 61) hx hb dX4_readInto_12 (by decide) (fun c7 => ?_) (fun c7 => ?_)
      · have hF := q_it hF c7
        exact hk _ _ _ _ (lv_sub hl [] rfl) hP hD hS hF
      · have hF := q_ie hF c7
        refine lv_iload_n hx hb dX4_readInto_15 rfl (lv_at hl 2 rfl) ?_
        refine lv_aload_n hx hb dX4_readInto_16 rfl (lv_at hl 0 rfl) ?_
        refine qg_X_X4_length hM hP fl_X4_18 dX4_readInto_17 ?_
        refine lv_icmp_ge (tgt := 61) hx hb dX4_readInto_20 (by decide) (fun c8 => ?_) (fun c8 => ?_)
        · have hF := q_it hF c8
          exact hk _ _ _ _ (lv_sub hl [] rfl) hP hD hS hF
        · have hF := q_ie hF c8
          refine lv_aload_n hx hb dX4_readInto_23 rfl (lv_at hl 0 rfl) ?_
          refine lv_iload_n hx hb dX4_readInto_24 rfl (lv_at hl 2 rfl) ?_
          obtain ⟨r9, hC10, hF⟩ := q_b1_e hF
          refine q_calli hM (c_X4_endOfItem l D cI cJ g ad j _ _ _ hC10) hP hD hS ky_X4_endOfItem ml_X4_27 rfl rfl ⟨Nat.le_of_ble_eq_true rfl, Nat.le_of_ble_eq_true rfl⟩ 1 rfl rfl rfl hl.1 rfl (Nat.le_of_ble_eq_true rfl) ⟨Nat.zero_le _, Nat.zero_le _⟩ dX4_readInto_25 (fun H locs hz11 hP hD hS => ?_)
          refine lv_istore (lv' := [(4, .int r9), (0, .ref (ad 1)), (1, .ref (ad 2)), (2, .int v3), (3, .int v4)]) hx hb dX4_readInto_28 hl (by decide) rfl (fun ls hl => ?_)
          refine lv_iload hx hb dX4_readInto_30 (lv_at hl 0 rfl) ?_
          refine lv_bipush (v := -4) hx hb dX4_readInto_32 (by decide) ?_
          refine lv_icmp_eq (tgt := 48) hx hb dX4_readInto_34 (by decide) (fun c12 => ?_) (fun c12 => ?_)
          · have hF := q_it hF c12
            refine lv_iload_n hx hb dX4_readInto_48 rfl (lv_at hl 3 rfl) ?_
            exact hRet (v3, x5) _ _ _ _ hF rfl dX4_readInto_49 hP hD hS
          · have hF := q_ie hF c12
            refine lv_aload_n hx hb dX4_readInto_37 rfl (lv_at hl 1 rfl) ?_
            refine lv_iload_n hx hb dX4_readInto_38 rfl (lv_at hl 3 rfl) ?_
            refine lv_iload hx hb dX4_readInto_39 (lv_at hl 0 rfl) ?_
            refine lv_aload_n hx hb dX4_readInto_41 rfl (lv_at hl 2 rfl) ?_
            obtain ⟨r13, x14, hC15, hF⟩ := q_b2_e hF
            refine q_calli hM (c_X4_readItem l D cI cJ g ad j _ _ _ _ hC15) hP hD hS ky_X4_readItem ml_X4_31 rfl rfl ⟨Nat.le_of_ble_eq_true rfl, Nat.le_of_ble_eq_true rfl⟩ 1 rfl rfl rfl hl.1 rfl (Nat.le_of_ble_eq_true rfl) ⟨Nat.zero_le _, Nat.zero_le _⟩ dX4_readInto_42 (fun H locs hz16 hP hD hS => ?_)
            refine lv_if_ne (tgt := 50) hx hb dX4_readInto_45 (by decide) (fun c17 => ?_) (fun c17 => ?_)
            · have hF := q_ie hF c17
              refine lv_iload hx hb dX4_readInto_50 (lv_at hl 0 rfl) ?_
              refine lv_iconst (v := 1) hx hb dX4_readInto_52 (by decide) ?_
              refine lv_iadd hx hb dX4_readInto_53 ?_
              refine lv_topi (fun v18 ev18 => ?_)
              have hF := q_let_e hF ev18
              refine lv_istore_n (lv' := [(2, .int v18), (4, .int r9), (0, .ref (ad 1)), (1, .ref (ad 2)), (3, .int v4)]) hx hb dX4_readInto_54 rfl hl (by decide) rfl (fun ls hl => ?_)
              obtain ⟨v19, ev19⟩ : ∃ y : Int32, y = v4 + 1 := ⟨_, rfl⟩
              have hF := q_let_e hF ev19
              refine lv_iinc (v := v19) (lv' := [(3, .int v19), (2, .int v18), (4, .int r9), (0, .ref (ad 1)), (1, .ref (ad 2))]) hx hb dX4_readInto_55 hl (k := 4) rfl (by rw [ev19]; rfl) (by decide) rfl (fun ls hl => ?_)
              refine lv_goto (tgt := 8) hx hb dX4_readInto_58 (by decide) ?_
              exact ih _ _ _ _ _ _ (lv_sub hl [3, 4, 1, 0] rfl) hP hD hS hk hF
            · have hF := q_it hF c17
              refine lv_iload_n hx hb dX4_readInto_48 rfl (lv_at hl 3 rfl) ?_
              exact hRet (v3, x14) _ _ _ _ hF rfl dX4_readInto_49 hP hD hS
  refine L8 _ _ _ _ _ _ _ _ (lv_sub hl [2, 3, 1, 0] rfl) hP hD hS ?_ hF
  clear hF
  intro x6 H locs ls hl hP hD hS hF
  refine lv_bipush (v := -4) hx hb dX4_readInto_61 (by decide) ?_
  exact hRet ((-4 : Int32), x6) _ _ _ _ hF rfl dX4_readInto_63 hP hD hS
end
