section
theorem ky_X3_sortIn : q_Y yX3_sortIn cX3_sortIn 3 none 1 := ⟨cw_X3_sortIn, im_X3_sortIn, se_X3_sortIn, in_X3, by decide +kernel⟩
set_option maxHeartbeats 4000000 in
set_option maxRecDepth 100000 in
theorem c_X3_sortIn (l : Launch) (D : va_G) (cI cJ : ClassId) (g : Nat → Nat) (ad : Nat → Nat) (j : JS) (x : IS) (a1 : Int32) (res : IS) (hF : f_X3_sortIn x a1 = some res) : q_Mv l yX3_sortIn cX3_sortIn 3 { frames := 0, cells := 0, slots := 0, locals := 0 } D cI cJ g (q_WX cI cJ ad x j) [.ref (ad 3), .int a1] (q_WX cI cJ ad res j) := by
  refine q_ofv (res := res) (fun u : IS => (q_WX cI cJ ad u j)) pl_X3 (Nat.le_of_ble_eq_true rfl) ?_
  intro p e s m args below meth c A Q hM hRet ls hl hP hD hS
  have hx := hM.1.1
  have hb := hM.1.2.1
  have hl : lv_has ls 3 [(0, .ref (ad 3)), (1, .int a1)] := hl
  unfold f_X3_sortIn at hF
  refine lv_aload_n hx hb dX3_sortIn_0 rfl (lv_at hl 0 rfl) ?_
  refine qg_X_X3_inWindow hM hP fl_X3_81 dX3_sortIn_1 ?_
  refine lv_if_lt (tgt := 16) hx hb dX3_sortIn_4 (by decide) (fun c1 => ?_) (fun c1 => ?_)
  · have hF := q_it hF c1
    exact hRet _ _ _ _ _ hF dX3_sortIn_16 hP hD hS
  · have hF := q_ie hF c1
    refine lv_aload_n hx hb dX3_sortIn_7 rfl (lv_at hl 0 rfl) ?_
    refine qg_X_X3_inWindow hM hP fl_X3_81 dX3_sortIn_8 ?_
    refine lv_bipush (v := 12) hx hb dX3_sortIn_11 (by decide) ?_
    refine lv_icmp_lt (tgt := 17) hx hb dX3_sortIn_13 (by decide) (fun c2 => ?_) (fun c2 => ?_)
    · have hF := q_it hF c2
      refine lv_aload_n hx hb dX3_sortIn_17 rfl (lv_at hl 0 rfl) ?_
      refine qg_X_X3_inWindow hM hP fl_X3_81 dX3_sortIn_18 ?_
      refine lv_topi (fun v3 ev3 => ?_)
      have hF := q_let_e hF ev3
      refine lv_istore_n (lv' := [(2, .int v3), (0, .ref (ad 3)), (1, .int a1)]) hx hb dX3_sortIn_21 rfl hl (by decide) rfl (fun ls hl => ?_)
      have L22 : ∀ (k : Int32 → IS → Option (IS)) (n : Nat) (v4 : Int32) (x6 : IS) (H : Heap) (locs : List Loc) (ls : Array Slot), lv_has ls 3 [(0, .ref (ad 3)), (1, .int a1), (2, .int v4)] → va_P D vwCl (q_WX cI cJ ad x6 j) H → va_D A (q_WX cI cJ ad x6 j) → va_S A s.heap H locs → (∀ (e5 : Int32) (x7 : IS) (H : Heap) (locs : List Loc) (ls : Array Slot), lv_has ls 3 [(0, .ref (ad 3)), (1, .int a1), (2, .int e5)] → va_P D vwCl (q_WX cI cJ ad x7 j) H → va_D A (q_WX cI cJ ad x7 j) → va_S A s.heap H locs → k e5 x7 = some res → W p l e { frames := 0, cells := 0, slots := 0, locals := 0 } s m args below meth c H locs 0 0 Q (F0 m 58 ls [])) → f_X3_sortIn_L22 a1 k n v4 x6 = some res → W p l e { frames := 0, cells := 0, slots := 0, locals := 0 } s m args below meth c H locs 0 0 Q (F0 m 22 ls []) := by
        intro k n
        induction n with
        | zero => intro v4 x6 H locs ls hl hP hD hS hk hF; exact q_no hF
        | succ n ih =>
          intro v4 x6 H locs ls hl hP hD hS hk hF
          have hF : f_X3_sortIn_L22F a1 k (f_X3_sortIn_L22 a1 k n) v4 x6 = some res := hF
          unfold f_X3_sortIn_L22F at hF
          refine lv_iload_n hx hb dX3_sortIn_22 rfl (lv_at hl 2 rfl) ?_
          refine lv_if_le (tgt := 58) hx hb dX3_sortIn_23 (by decide) (fun c8 => ?_) (fun c8 => ?_)
          · have hF := q_it hF c8
            exact hk _ _ _ _ _ (lv_sub hl [0, 1, 2] rfl) hP hD hS hF
          · have hF := q_ie hF c8
            refine lv_aload_n hx hb dX3_sortIn_26 rfl (lv_at hl 0 rfl) ?_
            refine qg_X_X3_window hM hP fl_X3_24 dX3_sortIn_27 ?_
            refine lv_iload_n hx hb dX3_sortIn_30 rfl (lv_at hl 2 rfl) ?_
            refine lv_iconst (v := 1) hx hb dX3_sortIn_31 (by decide) ?_
            refine lv_isub hx hb dX3_sortIn_32 ?_
            obtain ⟨h9, hF⟩ := q_gd_e hF
            refine ql_X_X3_window hM hP h9 dX3_sortIn_33 ?_
            refine lv_iload_n hx hb dX3_sortIn_34 rfl (lv_at hl 1 rfl) ?_
            refine lv_icmp_le (tgt := 58) hx hb dX3_sortIn_35 (by decide) (fun c10 => ?_) (fun c10 => ?_)
            · have hF := q_it hF c10
              exact hk _ _ _ _ _ (lv_sub hl [0, 1, 2] rfl) hP hD hS hF
            · have hF := q_ie hF c10
              refine lv_aload_n hx hb dX3_sortIn_38 rfl (lv_at hl 0 rfl) ?_
              refine qg_X_X3_window hM hP fl_X3_24 dX3_sortIn_39 ?_
              refine lv_iload_n hx hb dX3_sortIn_42 rfl (lv_at hl 2 rfl) ?_
              refine lv_aload_n hx hb dX3_sortIn_43 rfl (lv_at hl 0 rfl) ?_
              refine qg_X_X3_window hM hP fl_X3_24 dX3_sortIn_44 ?_
              refine lv_iload_n hx hb dX3_sortIn_47 rfl (lv_at hl 2 rfl) ?_
              refine lv_iconst (v := 1) hx hb dX3_sortIn_48 (by decide) ?_
              refine lv_isub hx hb dX3_sortIn_49 ?_
              obtain ⟨h11, hF⟩ := q_gd_e hF
              refine ql_X_X3_window hM hP h11 dX3_sortIn_50 ?_
              obtain ⟨h12, hF⟩ := q_gd_e hF
              refine qs_X_X3_window hM hP hD hS h12 dX3_sortIn_51 (fun x13 H locs ex13 hP hD hS => ?_)
              have hF := q_let_e hF ex13
              obtain ⟨v14, ev14⟩ : ∃ y : Int32, y = v4 + (-1) := ⟨_, rfl⟩
              have hF := q_let_e hF ev14
              refine lv_iinc (v := v14) (lv' := [(2, .int v14), (0, .ref (ad 3)), (1, .int a1)]) hx hb dX3_sortIn_52 hl (k := 2) rfl (by rw [ev14]; rfl) (by decide) rfl (fun ls hl => ?_)
              refine lv_goto (tgt := 22) hx hb dX3_sortIn_55 (by decide) ?_
              exact ih _ _ _ _ _ (lv_sub hl [1, 2, 0] rfl) hP hD hS hk hF
      refine L22 _ _ _ _ _ _ _ (lv_sub hl [1, 2, 0] rfl) hP hD hS ?_ hF
      clear hF
      intro e5 x7 H locs ls hl hP hD hS hF
      refine lv_aload_n hx hb dX3_sortIn_58 rfl (lv_at hl 0 rfl) ?_
      refine qg_X_X3_window hM hP fl_X3_24 dX3_sortIn_59 ?_
      refine lv_iload_n hx hb dX3_sortIn_62 rfl (lv_at hl 2 rfl) ?_
      refine lv_iload_n hx hb dX3_sortIn_63 rfl (lv_at hl 1 rfl) ?_
      obtain ⟨h15, hF⟩ := q_gd_e hF
      refine qs_X_X3_window hM hP hD hS h15 dX3_sortIn_64 (fun x16 H locs ex16 hP hD hS => ?_)
      have hF := q_let_e hF ex16
      refine lv_aload_n hx hb dX3_sortIn_65 rfl (lv_at hl 0 rfl) ?_
      refine lv_dup hx hb dX3_sortIn_66 rfl ?_
      refine qg_X_X3_inWindow hM hP fl_X3_81 dX3_sortIn_67 ?_
      refine lv_iconst (v := 1) hx hb dX3_sortIn_70 (by decide) ?_
      refine lv_iadd hx hb dX3_sortIn_71 ?_
      refine qp_X_X3_inWindow hM hP hD hS fl_X3_81 dX3_sortIn_72 (fun x17 H locs ex17 hP hD hS => ?_)
      have hF := q_let_e hF ex17
      exact hRet _ _ _ _ _ hF dX3_sortIn_75 hP hD hS
    · have hF := q_ie hF c2
      exact hRet _ _ _ _ _ hF dX3_sortIn_16 hP hD hS
theorem ky_X3_gatherFrom : q_Y yX3_gatherFrom cX3_gatherFrom 5 none 3 := ⟨cw_X3_gatherFrom, im_X3_gatherFrom, se_X3_gatherFrom, in_X3, by decide +kernel⟩
set_option maxHeartbeats 4000000 in
set_option maxRecDepth 100000 in
theorem c_X3_gatherFrom (l : Launch) (D : va_G) (cI cJ : ClassId) (g : Nat → Nat) (ad : Nat → Nat) (j : JS) (x : IS) (a1 : Int32) (a2 : Int32) (a3 : Int32) (res : IS) (hF : f_X3_gatherFrom x a1 a2 a3 = some res) : q_Mv l yX3_gatherFrom cX3_gatherFrom 5 { frames := 1, cells := 0, slots := 0, locals := 22 } D cI cJ g (q_WX cI cJ ad x j) [.ref (ad 3), .int a1, .int a2, .int a3] (q_WX cI cJ ad res j) := by
  refine q_ofv (res := res) (fun u : IS => (q_WX cI cJ ad u j)) pl_X3 (Nat.le_of_ble_eq_true rfl) ?_
  intro p e s m args below meth c A Q hM hRet ls hl hP hD hS
  have hx := hM.1.1
  have hb := hM.1.2.1
  have hl : lv_has ls 5 [(0, .ref (ad 3)), (1, .int a1), (2, .int a2), (3, .int a3)] := hl
  unfold f_X3_gatherFrom at hF
  refine lv_iload_n hx hb dX3_gatherFrom_0 rfl (lv_at hl 1 rfl) ?_
  refine lv_iconst (v := 0) hx hb dX3_gatherFrom_1 (by decide) ?_
  refine va_mmax hx hb (hM.1.2.2.1.trans hl.1.symm) hM.1.2.2.2.1 (hM.1.2.2.2.2 _ ml_X3_88) (hM.1.2.2.2.2 _ st_J9_max_7cf53) (hM.1.2.2.2.2 _ in_J9) (hM.1.2.2.2.2 _ cw_J9_max_7cf53) (Nat.le_of_ble_eq_true rfl) (Nat.le_of_ble_eq_true rfl) (Nat.zero_le _) (Nat.zero_le _) dX3_gatherFrom_2 ?_
  refine lv_topi (fun v1 ev1 => ?_)
  have hF := q_let_e hF ev1
  refine lv_istore (lv' := [(4, .int v1), (0, .ref (ad 3)), (1, .int a1), (2, .int a2), (3, .int a3)]) hx hb dX3_gatherFrom_5 hl (by decide) rfl (fun ls hl => ?_)
  have L7 : ∀ (k : IS → Option (IS)) (n : Nat) (v2 : Int32) (x3 : IS) (H : Heap) (locs : List Loc) (ls : Array Slot), lv_has ls 5 [(0, .ref (ad 3)), (2, .int a2), (3, .int a3), (4, .int v2)] → va_P D vwCl (q_WX cI cJ ad x3 j) H → va_D A (q_WX cI cJ ad x3 j) → va_S A s.heap H locs → (∀ (x4 : IS) (H : Heap) (locs : List Loc) (ls : Array Slot), lv_has ls 5 [] → va_P D vwCl (q_WX cI cJ ad x4 j) H → va_D A (q_WX cI cJ ad x4 j) → va_S A s.heap H locs → k x4 = some res → W p l e { frames := 1, cells := 0, slots := 0, locals := 22 } s m args below meth c H locs 0 0 Q (F0 m 62 ls [])) → f_X3_gatherFrom_L7 a2 a3 k n v2 x3 = some res → W p l e { frames := 1, cells := 0, slots := 0, locals := 22 } s m args below meth c H locs 0 0 Q (F0 m 7 ls []) := by
    intro k n
    induction n with
    | zero => intro v2 x3 H locs ls hl hP hD hS hk hF; exact q_no hF
    | succ n ih =>
      intro v2 x3 H locs ls hl hP hD hS hk hF
      have hF : f_X3_gatherFrom_L7F a2 a3 k (f_X3_gatherFrom_L7 a2 a3 k n) v2 x3 = some res := hF
      unfold f_X3_gatherFrom_L7F at hF
      refine lv_iload hx hb dX3_gatherFrom_7 (lv_at hl 3 rfl) ?_
      refine lv_iload_n hx hb dX3_gatherFrom_9 rfl (lv_at hl 1 rfl) ?_
      refine lv_icmp_gt (tgt := 62) hx hb dX3_gatherFrom_10 (by decide) (fun c5 => ?_) (fun c5 => ?_)
      · have hF := q_it hF c5
        exact hk _ _ _ _ (lv_sub hl [] rfl) hP hD hS hF
      · have hF := q_ie hF c5
        refine lv_iload hx hb dX3_gatherFrom_13 (lv_at hl 3 rfl) ?_
        refine lv_aload_n hx hb dX3_gatherFrom_15 rfl (lv_at hl 0 rfl) ?_
        refine qg_X_X3_size hM hP fl_X3_27 dX3_gatherFrom_16 ?_
        refine lv_icmp_ge (tgt := 62) hx hb dX3_gatherFrom_19 (by decide) (fun c6 => ?_) (fun c6 => ?_)
        · have hF := q_it hF c6
          exact hk _ _ _ _ (lv_sub hl [] rfl) hP hD hS hF
        · have hF := q_ie hF c6
          refine lv_iload hx hb dX3_gatherFrom_22 (lv_at hl 3 rfl) ?_
          refine lv_bipush (v := 48) hx hb dX3_gatherFrom_24 (by decide) ?_
          refine lv_icmp_ge (tgt := 62) hx hb dX3_gatherFrom_26 (by decide) (fun c7 => ?_) (fun c7 => ?_)
          · have hF := q_it hF c7
            exact hk _ _ _ _ (lv_sub hl [] rfl) hP hD hS hF
          · have hF := q_ie hF c7
            refine lv_aload_n hx hb dX3_gatherFrom_29 rfl (lv_at hl 0 rfl) ?_
            refine qg_X_X3_left hM hP fl_X3_15 dX3_gatherFrom_30 ?_
            refine lv_iload hx hb dX3_gatherFrom_33 (lv_at hl 3 rfl) ?_
            obtain ⟨h8, hF⟩ := q_gd_e hF
            refine ql_X_X3_left hM hP h8 dX3_gatherFrom_35 ?_
            obtain ⟨J56, hJ56, hF⟩ := q_jn_e hF
            have K56 : ∀ (x14 : IS) (H : Heap) (locs : List Loc) (ls : Array Slot), lv_has ls 5 [(0, .ref (ad 3)), (2, .int a2), (3, .int a3), (4, .int v2)] → va_P D vwCl (q_WX cI cJ ad x14 j) H → va_D A (q_WX cI cJ ad x14 j) → va_S A s.heap H locs → J56 x14 = some res → W p l e { frames := 1, cells := 0, slots := 0, locals := 22 } s m args below meth c H locs 0 0 Q (F0 m 56 ls []) := by
              clear hF; intro x14 H locs ls hl hP hD hS hF
              rw [hJ56] at hF
              try dsimp only at hF
              obtain ⟨v15, ev15⟩ : ∃ y : Int32, y = v2 + 1 := ⟨_, rfl⟩
              have hF := q_let_e hF ev15
              refine lv_iinc (v := v15) (lv' := [(4, .int v15), (0, .ref (ad 3)), (2, .int a2), (3, .int a3)]) hx hb dX3_gatherFrom_56 hl (k := 3) rfl (by rw [ev15]; rfl) (by decide) rfl (fun ls hl => ?_)
              refine lv_goto (tgt := 7) hx hb dX3_gatherFrom_59 (by decide) ?_
              exact ih _ _ _ _ _ (lv_sub hl [1, 2, 3, 0] rfl) hP hD hS hk hF
            refine lv_if_ne (tgt := 56) hx hb dX3_gatherFrom_36 (by decide) (fun c9 => ?_) (fun c9 => ?_)
            · have hF := q_ie hF c9
              exact K56 _ _ _ _ (lv_sub hl [0, 1, 2, 3] rfl) hP hD hS hF
            · have hF := q_it hF c9
              refine lv_iload hx hb dX3_gatherFrom_39 (lv_at hl 3 rfl) ?_
              refine lv_iload_n hx hb dX3_gatherFrom_41 rfl (lv_at hl 2 rfl) ?_
              refine lv_icmp_eq (tgt := 56) hx hb dX3_gatherFrom_42 (by decide) (fun c10 => ?_) (fun c10 => ?_)
              · have hF := q_it hF c10
                exact K56 _ _ _ _ (lv_sub hl [0, 1, 2, 3] rfl) hP hD hS hF
              · have hF := q_ie hF c10
                refine lv_aload_n hx hb dX3_gatherFrom_45 rfl (lv_at hl 0 rfl) ?_
                refine lv_aload_n hx hb dX3_gatherFrom_46 rfl (lv_at hl 0 rfl) ?_
                refine qg_X_X3_powers hM hP fl_X3_9 dX3_gatherFrom_47 ?_
                refine lv_iload hx hb dX3_gatherFrom_50 (lv_at hl 3 rfl) ?_
                obtain ⟨h11, hF⟩ := q_gd_e hF
                refine ql_X_X3_powers hM hP h11 dX3_gatherFrom_52 ?_
                obtain ⟨x12, hC13, hF⟩ := q_b1_e hF
                refine q_callv hM (c_X3_sortIn l D cI cJ g ad j _ _ _ hC13) hP hD hS ky_X3_sortIn ml_X3_94 rfl rfl ⟨Nat.le_of_ble_eq_true rfl, Nat.le_of_ble_eq_true rfl⟩ 3 rfl rfl rfl hl.1 rfl (Nat.le_of_ble_eq_true rfl) ⟨Nat.zero_le _, Nat.zero_le _⟩ dX3_gatherFrom_53 (fun H locs hP hD hS => ?_)
                exact K56 _ _ _ _ (lv_sub hl [0, 1, 2, 3] rfl) hP hD hS hF
  refine L7 _ _ _ _ _ _ _ (lv_sub hl [1, 3, 4, 0] rfl) hP hD hS ?_ hF
  clear hF
  intro x4 H locs ls hl hP hD hS hF
  exact hRet _ _ _ _ _ hF dX3_gatherFrom_62 hP hD hS
theorem ky_X3_gather : q_Y yX3_gather cX3_gather 6 (some .int) 3 := ⟨cw_X3_gather, im_X3_gather, se_X3_gather, in_X3, by decide +kernel⟩
set_option maxHeartbeats 4000000 in
set_option maxRecDepth 100000 in
theorem c_X3_gather (l : Launch) (D : va_G) (cI cJ : ClassId) (g : Nat → Nat) (ad : Nat → Nat) (j : JS) (x : IS) (a1 : Int32) (a2 : Int32) (a3 : Int32) (res : Int32 × IS) (hF : f_X3_gather x a1 a2 a3 = some res) : q_Mi l yX3_gather cX3_gather 6 .int { frames := 2, cells := 0, slots := 0, locals := 46 } D cI cJ g (q_WX cI cJ ad x j) [.ref (ad 3), .int a1, .int a2, .int a3] (res.1) (q_WX cI cJ ad (res.2) j) := by
  refine q_ofi (res := res) (fun u : Int32 × IS => u.1) (fun u : Int32 × IS => (q_WX cI cJ ad (u.2) j)) pl_X3 (Nat.le_of_ble_eq_true rfl) ?_
  intro p e s m args below meth c A Q hM hRet ls hl hP hD hS
  have hx := hM.1.1
  have hb := hM.1.2.1
  have hl : lv_has ls 6 [(0, .ref (ad 3)), (1, .int a1), (2, .int a2), (3, .int a3)] := hl
  unfold f_X3_gather at hF
  refine lv_aload_n hx hb dX3_gather_0 rfl (lv_at hl 0 rfl) ?_
  refine qg_X_X3_look hM hP fl_X3_21 dX3_gather_1 ?_
  refine lv_iconst (v := 0) hx hb dX3_gather_4 (by decide) ?_
  refine ql_X_X3_look hM hP (by decide) dX3_gather_5 ?_
  refine lv_topi (fun v1 ev1 => ?_)
  have hF := q_let_e hF ev1
  refine lv_istore (lv' := [(4, .int v1), (0, .ref (ad 3)), (1, .int a1), (2, .int a2), (3, .int a3)]) hx hb dX3_gather_6 hl (by decide) rfl (fun ls hl => ?_)
  refine lv_aload_n hx hb dX3_gather_8 rfl (lv_at hl 1 rfl) ?_
  refine qg_X_X3_look hM hP fl_X3_21 dX3_gather_9 ?_
  refine lv_iconst (v := 1) hx hb dX3_gather_12 (by decide) ?_
  refine ql_X_X3_look hM hP (by decide) dX3_gather_13 ?_
  refine lv_topi (fun v2 ev2 => ?_)
  have hF := q_let_e hF ev2
  refine lv_istore (lv' := [(5, .int v2), (4, .int v1), (0, .ref (ad 3)), (1, .int a1), (2, .int a2), (3, .int a3)]) hx hb dX3_gather_14 hl (by decide) rfl (fun ls hl => ?_)
  refine lv_aload_n hx hb dX3_gather_16 rfl (lv_at hl 2 rfl) ?_
  refine lv_iconst (v := 0) hx hb dX3_gather_17 (by decide) ?_
  refine qp_X_X3_inWindow hM hP hD hS fl_X3_81 dX3_gather_18 (fun x3 H locs ex3 hP hD hS => ?_)
  have hF := q_let_e hF ex3
  refine lv_iload_n hx hb dX3_gather_21 rfl (lv_at hl 4 rfl) ?_
  refine lv_iconst (v := 1) hx hb dX3_gather_22 (by decide) ?_
  obtain ⟨J44, hJ44, hF⟩ := q_jn_e hF
  have K44 : ∀ (x7 : IS) (H : Heap) (locs : List Loc) (ls : Array Slot), lv_has ls 6 [(0, .ref (ad 3)), (1, .int a1), (2, .int a2), (3, .int a3), (4, .int v1), (5, .int v2)] → va_P D vwCl (q_WX cI cJ ad x7 j) H → va_D A (q_WX cI cJ ad x7 j) → va_S A s.heap H locs → J44 x7 = some res → W p l e { frames := 2, cells := 0, slots := 0, locals := 46 } s m args below meth c H locs 0 0 Q (F0 m 44 ls []) := by
    clear hF; intro x7 H locs ls hl hP hD hS hF
    rw [hJ44] at hF
    try dsimp only at hF
    refine lv_iload_n hx hb dX3_gather_44 rfl (lv_at hl 2 rfl) ?_
    refine lv_if_eq (tgt := 66) hx hb dX3_gather_45 (by decide) (fun c8 => ?_) (fun c8 => ?_)
    · have hF := q_it hF c8
      refine lv_aload_n hx hb dX3_gather_66 rfl (lv_at hl 0 rfl) ?_
      refine qg_X_X3_inWindow hM hP fl_X3_81 dX3_gather_67 ?_
      exact hRet ((x7 12 0), x7) _ _ _ _ hF rfl dX3_gather_70 hP hD hS
    · have hF := q_ie hF c8
      refine lv_aload_n hx hb dX3_gather_48 rfl (lv_at hl 0 rfl) ?_
      refine lv_iload_n hx hb dX3_gather_49 rfl (lv_at hl 1 rfl) ?_
      refine lv_iload hx hb dX3_gather_50 (lv_at hl 5 rfl) ?_
      refine lv_iadd hx hb dX3_gather_52 ?_
      refine lv_iconst (v := 1) hx hb dX3_gather_53 (by decide) ?_
      refine lv_iadd hx hb dX3_gather_54 ?_
      refine lv_iload_n hx hb dX3_gather_55 rfl (lv_at hl 1 rfl) ?_
      refine lv_iload hx hb dX3_gather_56 (lv_at hl 5 rfl) ?_
      refine lv_iadd hx hb dX3_gather_58 ?_
      refine lv_iload hx hb dX3_gather_59 (lv_at hl 4 rfl) ?_
      refine lv_iadd hx hb dX3_gather_61 ?_
      refine lv_iload_n hx hb dX3_gather_62 rfl (lv_at hl 3 rfl) ?_
      obtain ⟨x9, hC10, hF⟩ := q_b1_e hF
      refine q_callv hM (c_X3_gatherFrom l D cI cJ g ad j _ _ _ _ _ hC10) hP hD hS ky_X3_gatherFrom ml_X3_84 rfl rfl ⟨Nat.le_of_ble_eq_true rfl, Nat.le_of_ble_eq_true rfl⟩ 3 rfl rfl rfl hl.1 rfl (Nat.le_of_ble_eq_true rfl) ⟨Nat.zero_le _, Nat.zero_le _⟩ dX3_gather_63 (fun H locs hP hD hS => ?_)
      refine lv_aload_n hx hb dX3_gather_66 rfl (lv_at hl 0 rfl) ?_
      refine qg_X_X3_inWindow hM hP fl_X3_81 dX3_gather_67 ?_
      exact hRet ((x9 12 0), x9) _ _ _ _ hF rfl dX3_gather_70 hP hD hS
  refine lv_icmp_eq (tgt := 44) hx hb dX3_gather_23 (by decide) (fun c4 => ?_) (fun c4 => ?_)
  · have hF := q_it hF c4
    exact K44 _ _ _ _ (lv_sub hl [2, 3, 4, 5, 1, 0] rfl) hP hD hS hF
  · have hF := q_ie hF c4
    refine lv_aload_n hx hb dX3_gather_26 rfl (lv_at hl 2 rfl) ?_
    refine lv_iload_n hx hb dX3_gather_27 rfl (lv_at hl 3 rfl) ?_
    refine lv_iload hx hb dX3_gather_28 (lv_at hl 0 rfl) ?_
    refine lv_isub hx hb dX3_gather_30 ?_
    refine lv_iload hx hb dX3_gather_31 (lv_at hl 1 rfl) ?_
    refine lv_isub hx hb dX3_gather_33 ?_
    refine lv_iload_n hx hb dX3_gather_34 rfl (lv_at hl 3 rfl) ?_
    refine lv_iload hx hb dX3_gather_35 (lv_at hl 0 rfl) ?_
    refine lv_isub hx hb dX3_gather_37 ?_
    refine lv_iconst (v := 1) hx hb dX3_gather_38 (by decide) ?_
    refine lv_isub hx hb dX3_gather_39 ?_
    refine lv_iload_n hx hb dX3_gather_40 rfl (lv_at hl 5 rfl) ?_
    obtain ⟨x5, hC6, hF⟩ := q_b1_e hF
    refine q_callv hM (c_X3_gatherFrom l D cI cJ g ad j _ _ _ _ _ hC6) hP hD hS ky_X3_gatherFrom ml_X3_84 rfl rfl ⟨Nat.le_of_ble_eq_true rfl, Nat.le_of_ble_eq_true rfl⟩ 3 rfl rfl rfl hl.1 rfl (Nat.le_of_ble_eq_true rfl) ⟨Nat.zero_le _, Nat.zero_le _⟩ dX3_gather_41 (fun H locs hP hD hS => ?_)
    exact K44 _ _ _ _ (lv_sub hl [2, 3, 4, 5, 1, 0] rfl) hP hD hS hF
theorem ky_X3_rankOn : q_Y yX3_rankOn cX3_rankOn 5 (some .int) 3 := ⟨cw_X3_rankOn, im_X3_rankOn, se_X3_rankOn, in_X3, by decide +kernel⟩
set_option maxHeartbeats 4000000 in
set_option maxRecDepth 100000 in
theorem c_X3_rankOn (l : Launch) (D : va_G) (cI cJ : ClassId) (g : Nat → Nat) (ad : Nat → Nat) (j : JS) (x : IS) (a1 : Int32) (a2 : Int32) (a3 : Int32) (res : Int32 × IS) (hF : f_X3_rankOn x a1 a2 a3 = some res) : q_Mi l yX3_rankOn cX3_rankOn 5 .int { frames := 3, cells := 0, slots := 0, locals := 71 } D cI cJ g (q_WX cI cJ ad x j) [.ref (ad 3), .int a1, .int a2, .int a3] (res.1) (q_WX cI cJ ad (res.2) j) := by
  refine q_ofi (res := res) (fun u : Int32 × IS => u.1) (fun u : Int32 × IS => (q_WX cI cJ ad (u.2) j)) pl_X3 (Nat.le_of_ble_eq_true rfl) ?_
  intro p e s m args below meth c A Q hM hRet ls hl hP hD hS
  have hx := hM.1.1
  have hb := hM.1.2.1
  have hl : lv_has ls 5 [(0, .ref (ad 3)), (1, .int a1), (2, .int a2), (3, .int a3)] := hl
  unfold f_X3_rankOn at hF
  refine lv_aload_n hx hb dX3_rankOn_0 rfl (lv_at hl 0 rfl) ?_
  refine lv_iload_n hx hb dX3_rankOn_1 rfl (lv_at hl 1 rfl) ?_
  refine lv_iload_n hx hb dX3_rankOn_2 rfl (lv_at hl 2 rfl) ?_
  refine lv_iload_n hx hb dX3_rankOn_3 rfl (lv_at hl 3 rfl) ?_
  obtain ⟨r1, x2, hC3, hF⟩ := q_b2_e hF
  refine q_calli hM (c_X3_gather l D cI cJ g ad j _ _ _ _ _ hC3) hP hD hS ky_X3_gather ml_X3_104 rfl rfl ⟨Nat.le_of_ble_eq_true rfl, Nat.le_of_ble_eq_true rfl⟩ 3 rfl rfl rfl hl.1 rfl (Nat.le_of_ble_eq_true rfl) ⟨Nat.zero_le _, Nat.zero_le _⟩ dX3_rankOn_4 (fun H locs hz4 hP hD hS => ?_)
  refine lv_aload_n hx hb dX3_rankOn_7 rfl (lv_at hl 0 rfl) ?_
  refine qg_X_X3_look hM hP fl_X3_21 dX3_rankOn_8 ?_
  refine lv_iconst (v := 2) hx hb dX3_rankOn_11 (by decide) ?_
  refine ql_X_X3_look hM hP (by decide) dX3_rankOn_12 ?_
  refine va_mmin hx hb (hM.1.2.2.1.trans hl.1.symm) hM.1.2.2.2.1 (hM.1.2.2.2.2 _ ml_X3_101) (hM.1.2.2.2.2 _ st_J9_min_7cf53) (hM.1.2.2.2.2 _ in_J9) (hM.1.2.2.2.2 _ cw_J9_min_7cf53) (Nat.le_of_ble_eq_true rfl) (Nat.le_of_ble_eq_true rfl) (Nat.zero_le _) (Nat.zero_le _) dX3_rankOn_13 ?_
  refine lv_iconst (v := 1) hx hb dX3_rankOn_16 (by decide) ?_
  refine lv_isub hx hb dX3_rankOn_17 ?_
  refine lv_topi (fun v5 ev5 => ?_)
  have hF := q_let_e hF ev5
  refine lv_istore (lv' := [(4, .int v5), (0, .ref (ad 3)), (1, .int a1), (2, .int a2), (3, .int a3)]) hx hb dX3_rankOn_18 hl (by decide) rfl (fun ls hl => ?_)
  refine lv_iload hx hb dX3_rankOn_20 (lv_at hl 0 rfl) ?_
  refine lv_if_lt (tgt := 42) hx hb dX3_rankOn_22 (by decide) (fun c6 => ?_) (fun c6 => ?_)
  · have hF := q_it hF c6
    refine lv_bipush (v := -4) hx hb dX3_rankOn_42 (by decide) ?_
    exact hRet ((-4 : Int32), x2) _ _ _ _ hF rfl dX3_rankOn_44 hP hD hS
  · have hF := q_ie hF c6
    refine lv_iload hx hb dX3_rankOn_25 (lv_at hl 0 rfl) ?_
    refine lv_bipush (v := 12) hx hb dX3_rankOn_27 (by decide) ?_
    refine lv_icmp_ge (tgt := 42) hx hb dX3_rankOn_29 (by decide) (fun c7 => ?_) (fun c7 => ?_)
    · have hF := q_it hF c7
      refine lv_bipush (v := -4) hx hb dX3_rankOn_42 (by decide) ?_
      exact hRet ((-4 : Int32), x2) _ _ _ _ hF rfl dX3_rankOn_44 hP hD hS
    · have hF := q_ie hF c7
      refine lv_aload_n hx hb dX3_rankOn_32 rfl (lv_at hl 1 rfl) ?_
      refine qg_X_X3_window hM hP fl_X3_24 dX3_rankOn_33 ?_
      refine lv_iload hx hb dX3_rankOn_36 (lv_at hl 0 rfl) ?_
      obtain ⟨h8, hF⟩ := q_gd_e hF
      refine ql_X_X3_window hM hP h8 dX3_rankOn_38 ?_
      refine lv_goto (tgt := 44) hx hb dX3_rankOn_39 (by decide) ?_
      exact hRet ((x2 11 v5.toNatClampNeg), x2) _ _ _ _ hF rfl dX3_rankOn_44 hP hD hS
theorem ky_X3_floorOf : q_Y yX3_floorOf cX3_floorOf 5 (some .int) 2 := ⟨cw_X3_floorOf, im_X3_floorOf, se_X3_floorOf, in_X3, by decide +kernel⟩
set_option maxHeartbeats 4000000 in
set_option maxRecDepth 100000 in
theorem c_X3_floorOf (l : Launch) (D : va_G) (cI cJ : ClassId) (g : Nat → Nat) (ad : Nat → Nat) (j : JS) (x : IS) (a1 : Int32) (a2 : Int32) (res : Int32 × IS) (hF : f_X3_floorOf x a1 a2 = some res) : q_Mi l yX3_floorOf cX3_floorOf 5 .int { frames := 4, cells := 0, slots := 0, locals := 95 } D cI cJ g (q_WX cI cJ ad x j) [.ref (ad 3), .int a1, .int a2] (res.1) (q_WX cI cJ ad (res.2) j) := by
  refine q_ofi (res := res) (fun u : Int32 × IS => u.1) (fun u : Int32 × IS => (q_WX cI cJ ad (u.2) j)) pl_X3 (Nat.le_of_ble_eq_true rfl) ?_
  intro p e s m args below meth c A Q hM hRet ls hl hP hD hS
  have hx := hM.1.1
  have hb := hM.1.2.1
  have hl : lv_has ls 5 [(0, .ref (ad 3)), (1, .int a1), (2, .int a2)] := hl
  unfold f_X3_floorOf at hF
  refine lv_aload_n hx hb dX3_floorOf_0 rfl (lv_at hl 0 rfl) ?_
  refine qg_X_X3_mode hM hP fl_X3_51 dX3_floorOf_1 ?_
  refine lv_if_ne (tgt := 15) hx hb dX3_floorOf_4 (by decide) (fun c1 => ?_) (fun c1 => ?_)
  · have hF := q_ie hF c1
    refine lv_aload_n hx hb dX3_floorOf_15 rfl (lv_at hl 0 rfl) ?_
    refine lv_iload_n hx hb dX3_floorOf_16 rfl (lv_at hl 1 rfl) ?_
    refine lv_iconst (v := 0) hx hb dX3_floorOf_17 (by decide) ?_
    refine lv_iload_n hx hb dX3_floorOf_18 rfl (lv_at hl 2 rfl) ?_
    obtain ⟨r2, x3, hC4, hF⟩ := q_b2_e hF
    refine q_calli hM (c_X3_rankOn l D cI cJ g ad j _ _ _ _ _ hC4) hP hD hS ky_X3_rankOn ml_X3_97 rfl rfl ⟨Nat.le_of_ble_eq_true rfl, Nat.le_of_ble_eq_true rfl⟩ 3 rfl rfl rfl hl.1 rfl (Nat.le_of_ble_eq_true rfl) ⟨Nat.zero_le _, Nat.zero_le _⟩ dX3_floorOf_19 (fun H locs hz5 hP hD hS => ?_)
    refine lv_istore_n (lv' := [(3, .int r2), (0, .ref (ad 3)), (1, .int a1), (2, .int a2)]) hx hb dX3_floorOf_22 rfl hl (by decide) rfl (fun ls hl => ?_)
    refine lv_aload_n hx hb dX3_floorOf_23 rfl (lv_at hl 1 rfl) ?_
    refine lv_iload_n hx hb dX3_floorOf_24 rfl (lv_at hl 2 rfl) ?_
    refine lv_iconst (v := 1) hx hb dX3_floorOf_25 (by decide) ?_
    refine lv_iload_n hx hb dX3_floorOf_26 rfl (lv_at hl 3 rfl) ?_
    obtain ⟨r6, x7, hC8, hF⟩ := q_b2_e hF
    refine q_calli hM (c_X3_rankOn l D cI cJ g ad j _ _ _ _ _ hC8) hP hD hS ky_X3_rankOn ml_X3_97 rfl rfl ⟨Nat.le_of_ble_eq_true rfl, Nat.le_of_ble_eq_true rfl⟩ 3 rfl rfl rfl hl.1 rfl (Nat.le_of_ble_eq_true rfl) ⟨Nat.zero_le _, Nat.zero_le _⟩ dX3_floorOf_27 (fun H locs hz9 hP hD hS => ?_)
    refine lv_istore (lv' := [(4, .int r6), (3, .int r2), (0, .ref (ad 3)), (1, .int a1), (2, .int a2)]) hx hb dX3_floorOf_30 hl (by decide) rfl (fun ls hl => ?_)
    refine lv_iload_n hx hb dX3_floorOf_32 rfl (lv_at hl 1 rfl) ?_
    refine lv_bipush (v := -4) hx hb dX3_floorOf_33 (by decide) ?_
    refine lv_icmp_ne (tgt := 41) hx hb dX3_floorOf_35 (by decide) (fun c10 => ?_) (fun c10 => ?_)
    · have hF := q_ie hF c10
      refine lv_iload hx hb dX3_floorOf_41 (lv_at hl 0 rfl) ?_
      refine lv_bipush (v := -4) hx hb dX3_floorOf_43 (by decide) ?_
      refine lv_icmp_ne (tgt := 50) hx hb dX3_floorOf_45 (by decide) (fun c11 => ?_) (fun c11 => ?_)
      · have hF := q_ie hF c11
        refine lv_aload_n hx hb dX3_floorOf_50 rfl (lv_at hl 2 rfl) ?_
        refine qg_X_X3_mode hM hP fl_X3_51 dX3_floorOf_51 ?_
        refine lv_iconst (v := 1) hx hb dX3_floorOf_54 (by decide) ?_
        refine lv_icmp_ne (tgt := 67) hx hb dX3_floorOf_55 (by decide) (fun c12 => ?_) (fun c12 => ?_)
        · have hF := q_ie hF c12
          refine lv_iload_n hx hb dX3_floorOf_67 rfl (lv_at hl 1 rfl) ?_
          refine lv_iload hx hb dX3_floorOf_68 (lv_at hl 0 rfl) ?_
          refine va_mmin hx hb (hM.1.2.2.1.trans hl.1.symm) hM.1.2.2.2.1 (hM.1.2.2.2.2 _ ml_X3_101) (hM.1.2.2.2.2 _ st_J9_min_7cf53) (hM.1.2.2.2.2 _ in_J9) (hM.1.2.2.2.2 _ cw_J9_min_7cf53) (Nat.le_of_ble_eq_true rfl) (Nat.le_of_ble_eq_true rfl) (Nat.zero_le _) (Nat.zero_le _) dX3_floorOf_70 ?_
          exact hRet ((if r6 < r2 then r6 else r2), x7) _ _ _ _ hF rfl dX3_floorOf_73 hP hD hS
        · have hF := q_it hF c12
          refine lv_iload_n hx hb dX3_floorOf_58 rfl (lv_at hl 1 rfl) ?_
          refine lv_iload hx hb dX3_floorOf_59 (lv_at hl 0 rfl) ?_
          refine va_mmax hx hb (hM.1.2.2.1.trans hl.1.symm) hM.1.2.2.2.1 (hM.1.2.2.2.2 _ ml_X3_88) (hM.1.2.2.2.2 _ st_J9_max_7cf53) (hM.1.2.2.2.2 _ in_J9) (hM.1.2.2.2.2 _ cw_J9_max_7cf53) (Nat.le_of_ble_eq_true rfl) (Nat.le_of_ble_eq_true rfl) (Nat.zero_le _) (Nat.zero_le _) dX3_floorOf_61 ?_
          refine lv_goto (tgt := 73) hx hb dX3_floorOf_64 (by decide) ?_
          exact hRet ((if r2 < r6 then r6 else r2), x7) _ _ _ _ hF rfl dX3_floorOf_73 hP hD hS
      · have hF := q_it hF c11
        refine lv_iload_n hx hb dX3_floorOf_48 rfl (lv_at hl 1 rfl) ?_
        exact hRet (r2, x7) _ _ _ _ hF rfl dX3_floorOf_49 hP hD hS
    · have hF := q_it hF c10
      refine lv_iload hx hb dX3_floorOf_38 (lv_at hl 0 rfl) ?_
      exact hRet (r6, x7) _ _ _ _ hF rfl dX3_floorOf_40 hP hD hS
  · have hF := q_it hF c1
    refine lv_aload_n hx hb dX3_floorOf_7 rfl (lv_at hl 0 rfl) ?_
    refine lv_iload_n hx hb dX3_floorOf_8 rfl (lv_at hl 1 rfl) ?_
    refine lv_iconst (v := 2) hx hb dX3_floorOf_9 (by decide) ?_
    refine lv_iload_n hx hb dX3_floorOf_10 rfl (lv_at hl 2 rfl) ?_
    obtain ⟨r13, x14, hC15, hF⟩ := q_b2_e hF
    refine q_calli hM (c_X3_rankOn l D cI cJ g ad j _ _ _ _ _ hC15) hP hD hS ky_X3_rankOn ml_X3_97 rfl rfl ⟨Nat.le_of_ble_eq_true rfl, Nat.le_of_ble_eq_true rfl⟩ 3 rfl rfl rfl hl.1 rfl (Nat.le_of_ble_eq_true rfl) ⟨Nat.zero_le _, Nat.zero_le _⟩ dX3_floorOf_11 (fun H locs hz16 hP hD hS => ?_)
    exact hRet (r13, x14) _ _ _ _ hF rfl dX3_floorOf_14 hP hD hS
theorem ky_X3_has : q_Y yX3_has cX3_has 2 (some .boolean) 1 := ⟨cw_X3_has, im_X3_has, se_X3_has, in_X3, by decide +kernel⟩
set_option maxHeartbeats 4000000 in
set_option maxRecDepth 100000 in
theorem c_X3_has (l : Launch) (D : va_G) (cI cJ : ClassId) (g : Nat → Nat) (ad : Nat → Nat) (j : JS) (x : IS) (a1 : Int32) (res : Int32) (hF : f_X3_has x a1 = some res) : q_Mi l yX3_has cX3_has 2 .boolean { frames := 0, cells := 0, slots := 0, locals := 0 } D cI cJ g (q_WX cI cJ ad x j) [.ref (ad 3), .int a1] (res) (q_WX cI cJ ad x j) := by
  refine q_ofi (res := res) (fun u : Int32 => u) (fun _ : Int32 => (q_WX cI cJ ad x j)) pl_X3 (Nat.le_of_ble_eq_true rfl) ?_
  intro p e s m args below meth c A Q hM hRet ls hl hP hD hS
  have hx := hM.1.1
  have hb := hM.1.2.1
  have hl : lv_has ls 2 [(0, .ref (ad 3)), (1, .int a1)] := hl
  unfold f_X3_has at hF
  refine lv_iload_n hx hb dX3_has_0 rfl (lv_at hl 1 rfl) ?_
  refine lv_if_lt (tgt := 22) hx hb dX3_has_1 (by decide) (fun c1 => ?_) (fun c1 => ?_)
  · have hF := q_it hF c1
    refine lv_iconst (v := 0) hx hb dX3_has_22 (by decide) ?_
    exact hRet (0 : Int32) _ _ _ _ hF narrow_b0 dX3_has_23 hP hD hS
  · have hF := q_ie hF c1
    refine lv_iload_n hx hb dX3_has_4 rfl (lv_at hl 1 rfl) ?_
    refine lv_aload_n hx hb dX3_has_5 rfl (lv_at hl 0 rfl) ?_
    refine qg_X_X3_size hM hP fl_X3_27 dX3_has_6 ?_
    refine lv_icmp_ge (tgt := 22) hx hb dX3_has_9 (by decide) (fun c2 => ?_) (fun c2 => ?_)
    · have hF := q_it hF c2
      refine lv_iconst (v := 0) hx hb dX3_has_22 (by decide) ?_
      exact hRet (0 : Int32) _ _ _ _ hF narrow_b0 dX3_has_23 hP hD hS
    · have hF := q_ie hF c2
      refine lv_iload_n hx hb dX3_has_12 rfl (lv_at hl 1 rfl) ?_
      refine lv_bipush (v := 48) hx hb dX3_has_13 (by decide) ?_
      refine lv_icmp_ge (tgt := 22) hx hb dX3_has_15 (by decide) (fun c3 => ?_) (fun c3 => ?_)
      · have hF := q_it hF c3
        refine lv_iconst (v := 0) hx hb dX3_has_22 (by decide) ?_
        exact hRet (0 : Int32) _ _ _ _ hF narrow_b0 dX3_has_23 hP hD hS
      · have hF := q_ie hF c3
        refine lv_iconst (v := 1) hx hb dX3_has_18 (by decide) ?_
        refine lv_goto (tgt := 23) hx hb dX3_has_19 (by decide) ?_
        exact hRet (1 : Int32) _ _ _ _ hF narrow_b1 dX3_has_23 hP hD hS
theorem ky_X3_outdoes : q_Y yX3_outdoes cX3_outdoes 4 (some .boolean) 3 := ⟨cw_X3_outdoes, im_X3_outdoes, se_X3_outdoes, in_X3, by decide +kernel⟩
set_option maxHeartbeats 4000000 in
set_option maxRecDepth 100000 in
theorem c_X3_outdoes (l : Launch) (D : va_G) (cI cJ : ClassId) (g : Nat → Nat) (ad : Nat → Nat) (j : JS) (x : IS) (a1 : Int32) (a2 : Int32) (a3 : Int32) (res : Int32) (hF : f_X3_outdoes x a1 a2 a3 = some res) : q_Mi l yX3_outdoes cX3_outdoes 4 .boolean { frames := 1, cells := 0, slots := 0, locals := 21 } D cI cJ g (q_WX cI cJ ad x j) [.ref (ad 3), .int a1, .int a2, .int a3] (res) (q_WX cI cJ ad x j) := by
  refine q_ofi (res := res) (fun u : Int32 => u) (fun _ : Int32 => (q_WX cI cJ ad x j)) pl_X3 (Nat.le_of_ble_eq_true rfl) ?_
  intro p e s m args below meth c A Q hM hRet ls hl hP hD hS
  have hx := hM.1.1
  have hb := hM.1.2.1
  have hl : lv_has ls 4 [(0, .ref (ad 3)), (1, .int a1), (2, .int a2), (3, .int a3)] := hl
  unfold f_X3_outdoes at hF
  refine lv_aload_n hx hb dX3_outdoes_0 rfl (lv_at hl 0 rfl) ?_
  refine lv_iload_n hx hb dX3_outdoes_1 rfl (lv_at hl 1 rfl) ?_
  obtain ⟨r1, hC2, hF⟩ := q_b1_e hF
  refine q_calli hM (c_X3_has l D cI cJ g ad j _ _ _ hC2) hP hD hS ky_X3_has ml_X3_56 rfl rfl ⟨Nat.le_of_ble_eq_true rfl, Nat.le_of_ble_eq_true rfl⟩ 3 rfl rfl rfl hl.1 rfl (Nat.le_of_ble_eq_true rfl) ⟨Nat.zero_le _, Nat.zero_le _⟩ dX3_outdoes_2 (fun H locs hz3 hP hD hS => ?_)
  refine lv_if_eq (tgt := 46) hx hb dX3_outdoes_5 (by decide) (fun c4 => ?_) (fun c4 => ?_)
  · have hF := q_it hF c4
    refine lv_iconst (v := 0) hx hb dX3_outdoes_46 (by decide) ?_
    exact hRet (0 : Int32) _ _ _ _ hF narrow_b0 dX3_outdoes_47 hP hD hS
  · have hF := q_ie hF c4
    refine lv_aload_n hx hb dX3_outdoes_8 rfl (lv_at hl 0 rfl) ?_
    refine qg_X_X3_left hM hP fl_X3_15 dX3_outdoes_9 ?_
    refine lv_iload_n hx hb dX3_outdoes_12 rfl (lv_at hl 1 rfl) ?_
    obtain ⟨h5, hF⟩ := q_gd_e hF
    refine ql_X_X3_left hM hP h5 dX3_outdoes_13 ?_
    refine lv_if_ne (tgt := 46) hx hb dX3_outdoes_14 (by decide) (fun c6 => ?_) (fun c6 => ?_)
    · have hF := q_ie hF c6
      refine lv_iconst (v := 0) hx hb dX3_outdoes_46 (by decide) ?_
      exact hRet (0 : Int32) _ _ _ _ hF narrow_b0 dX3_outdoes_47 hP hD hS
    · have hF := q_it hF c6
      refine lv_iload_n hx hb dX3_outdoes_17 rfl (lv_at hl 2 rfl) ?_
      refine lv_bipush (v := -4) hx hb dX3_outdoes_18 (by decide) ?_
      refine lv_icmp_eq (tgt := 46) hx hb dX3_outdoes_20 (by decide) (fun c7 => ?_) (fun c7 => ?_)
      · have hF := q_it hF c7
        refine lv_iconst (v := 0) hx hb dX3_outdoes_46 (by decide) ?_
        exact hRet (0 : Int32) _ _ _ _ hF narrow_b0 dX3_outdoes_47 hP hD hS
      · have hF := q_ie hF c7
        refine lv_aload_n hx hb dX3_outdoes_23 rfl (lv_at hl 0 rfl) ?_
        refine qg_X_X3_look hM hP fl_X3_21 dX3_outdoes_24 ?_
        refine lv_iconst (v := 4) hx hb dX3_outdoes_27 (by decide) ?_
        refine ql_X_X3_look hM hP (by decide) dX3_outdoes_28 ?_
        refine lv_aload_n hx hb dX3_outdoes_29 rfl (lv_at hl 0 rfl) ?_
        refine qg_X_X3_powers hM hP fl_X3_9 dX3_outdoes_30 ?_
        refine lv_iload_n hx hb dX3_outdoes_33 rfl (lv_at hl 1 rfl) ?_
        obtain ⟨h8, hF⟩ := q_gd_e hF
        refine ql_X_X3_powers hM hP h8 dX3_outdoes_34 ?_
        refine lv_imul hx hb dX3_outdoes_35 ?_
        refine lv_iload_n hx hb dX3_outdoes_36 rfl (lv_at hl 3 rfl) ?_
        refine lv_iload_n hx hb dX3_outdoes_37 rfl (lv_at hl 2 rfl) ?_
        refine lv_imul hx hb dX3_outdoes_38 ?_
        refine lv_icmp_le (tgt := 46) hx hb dX3_outdoes_39 (by decide) (fun c9 => ?_) (fun c9 => ?_)
        · have hF := q_it hF c9
          refine lv_iconst (v := 0) hx hb dX3_outdoes_46 (by decide) ?_
          exact hRet (0 : Int32) _ _ _ _ hF narrow_b0 dX3_outdoes_47 hP hD hS
        · have hF := q_ie hF c9
          refine lv_iconst (v := 1) hx hb dX3_outdoes_42 (by decide) ?_
          refine lv_goto (tgt := 47) hx hb dX3_outdoes_43 (by decide) ?_
          exact hRet (1 : Int32) _ _ _ _ hF narrow_b1 dX3_outdoes_47 hP hD hS
theorem ky_X0_addToBunch : q_Y yX0_addToBunch cX0_addToBunch 5 none 2 := ⟨cw_X0_addToBunch, im_X0_addToBunch, se_X0_addToBunch, in_X0, by decide +kernel⟩
set_option maxHeartbeats 4000000 in
set_option maxRecDepth 100000 in
theorem c_X0_addToBunch (l : Launch) (D : va_G) (cI cJ : ClassId) (g : Nat → Nat) (ad : Nat → Nat) (j : JS) (x : IS) (a1 : Int32) (res : IS) (hF : f_X0_addToBunch x a1 = some res) : q_Mv l yX0_addToBunch cX0_addToBunch 5 { frames := 0, cells := 0, slots := 0, locals := 0 } D cI cJ g (q_WX cI cJ ad x j) [.ref (ad 4), .int a1, .ref (ad 3)] (q_WX cI cJ ad res j) := by
  refine q_ofv (res := res) (fun u : IS => (q_WX cI cJ ad u j)) pl_X0 (Nat.le_of_ble_eq_true rfl) ?_
  intro p e s m args below meth c A Q hM hRet ls hl hP hD hS
  have hx := hM.1.1
  have hb := hM.1.2.1
  have hl : lv_has ls 5 [(0, .ref (ad 4)), (1, .int a1), (2, .ref (ad 3))] := hl
  unfold f_X0_addToBunch at hF
  refine lv_aload_n hx hb dX0_addToBunch_0 rfl (lv_at hl 0 rfl) ?_
  refine qg_X_X0_bunches hM hP fl_X0_37 dX0_addToBunch_1 ?_
  obtain ⟨J29, hJ29, hF⟩ := q_jn_e hF
  have K29 : ∀ (t4 : Int32) (H : Heap) (locs : List Loc) (ls : Array Slot), lv_has ls 5 [(0, .ref (ad 4)), (1, .int a1), (2, .ref (ad 3))] → va_P D vwCl (q_WX cI cJ ad x j) H → va_D A (q_WX cI cJ ad x j) → va_S A s.heap H locs → J29 t4 = some res → W p l e { frames := 0, cells := 0, slots := 0, locals := 0 } s m args below meth c H locs 0 0 Q (F0 m 29 ls [.int t4]) := by
    clear hF; intro t4 H locs ls hl hP hD hS hF
    rw [hJ29] at hF
    try dsimp only at hF
    refine lv_istore_n (lv' := [(3, .int t4), (0, .ref (ad 4)), (1, .int a1), (2, .ref (ad 3))]) hx hb dX0_addToBunch_29 rfl hl (by decide) rfl (fun ls hl => ?_)
    refine lv_iload_n hx hb dX0_addToBunch_30 rfl (lv_at hl 0 rfl) ?_
    obtain ⟨J47, hJ47, hF⟩ := q_jn_e hF
    have K47 : ∀ (t6 : Int32) (H : Heap) (locs : List Loc) (ls : Array Slot), lv_has ls 5 [(0, .ref (ad 4)), (1, .int a1), (2, .ref (ad 3)), (3, .int t4)] → va_P D vwCl (q_WX cI cJ ad x j) H → va_D A (q_WX cI cJ ad x j) → va_S A s.heap H locs → J47 t6 = some res → W p l e { frames := 0, cells := 0, slots := 0, locals := 0 } s m args below meth c H locs 0 0 Q (F0 m 47 ls [.int t6]) := by
      clear hF; intro t6 H locs ls hl hP hD hS hF
      rw [hJ47] at hF
      try dsimp only at hF
      refine lv_istore (lv' := [(4, .int t6), (0, .ref (ad 4)), (1, .int a1), (2, .ref (ad 3)), (3, .int t4)]) hx hb dX0_addToBunch_47 hl (by decide) rfl (fun ls hl => ?_)
      refine lv_iload hx hb dX0_addToBunch_49 (lv_at hl 0 rfl) ?_
      refine lv_bipush (v := 48) hx hb dX0_addToBunch_51 (by decide) ?_
      refine lv_icmp_lt (tgt := 57) hx hb dX0_addToBunch_53 (by decide) (fun c7 => ?_) (fun c7 => ?_)
      · have hF := q_it hF c7
        refine lv_iload_n hx hb dX0_addToBunch_57 rfl (lv_at hl 4 rfl) ?_
        obtain ⟨J87, hJ87, hF⟩ := q_jn_e hF
        have K87 : ∀ (x14 : IS) (H : Heap) (locs : List Loc) (ls : Array Slot), lv_has ls 5 [(0, .ref (ad 4)), (1, .int a1), (2, .ref (ad 3)), (4, .int t6)] → va_P D vwCl (q_WX cI cJ ad x14 j) H → va_D A (q_WX cI cJ ad x14 j) → va_S A s.heap H locs → J87 x14 = some res → W p l e { frames := 0, cells := 0, slots := 0, locals := 0 } s m args below meth c H locs 0 0 Q (F0 m 87 ls []) := by
          clear hF; intro x14 H locs ls hl hP hD hS hF
          rw [hJ87] at hF
          try dsimp only at hF
          refine lv_aload_n hx hb dX0_addToBunch_87 rfl (lv_at hl 0 rfl) ?_
          refine qg_X_X0_lasts hM hP fl_X0_21 dX0_addToBunch_88 ?_
          refine lv_iload hx hb dX0_addToBunch_91 (lv_at hl 3 rfl) ?_
          refine lv_iload_n hx hb dX0_addToBunch_93 rfl (lv_at hl 1 rfl) ?_
          obtain ⟨h15, hF⟩ := q_gd_e hF
          refine qs_X_X0_lasts hM hP hD hS h15 dX0_addToBunch_94 (fun x16 H locs ex16 hP hD hS => ?_)
          have hF := q_let_e hF ex16
          refine lv_aload_n hx hb dX0_addToBunch_95 rfl (lv_at hl 0 rfl) ?_
          refine qg_X_X0_bunchOf hM hP fl_X0_15 dX0_addToBunch_96 ?_
          refine lv_iload_n hx hb dX0_addToBunch_99 rfl (lv_at hl 1 rfl) ?_
          refine lv_iload hx hb dX0_addToBunch_100 (lv_at hl 3 rfl) ?_
          obtain ⟨h17, hF⟩ := q_gd_e hF
          refine qs_X_X0_bunchOf hM hP hD hS h17 dX0_addToBunch_102 (fun x18 H locs ex18 hP hD hS => ?_)
          have hF := q_let_e hF ex18
          refine lv_aload_n hx hb dX0_addToBunch_103 rfl (lv_at hl 2 rfl) ?_
          refine qg_X_X3_powers hM hP fl_X0_58 dX0_addToBunch_104 ?_
          refine lv_iload_n hx hb dX0_addToBunch_107 rfl (lv_at hl 1 rfl) ?_
          obtain ⟨h19, hF⟩ := q_gd_e hF
          refine ql_X_X3_powers hM hP h19 dX0_addToBunch_108 ?_
          refine lv_aload_n hx hb dX0_addToBunch_109 rfl (lv_at hl 2 rfl) ?_
          refine qg_X_X3_powers hM hP fl_X0_58 dX0_addToBunch_110 ?_
          refine lv_aload_n hx hb dX0_addToBunch_113 rfl (lv_at hl 0 rfl) ?_
          refine qg_X_X0_peaks hM hP fl_X0_24 dX0_addToBunch_114 ?_
          refine lv_iload hx hb dX0_addToBunch_117 (lv_at hl 3 rfl) ?_
          obtain ⟨h20, hF⟩ := q_gd_e hF
          refine ql_X_X0_peaks hM hP h20 dX0_addToBunch_119 ?_
          obtain ⟨h21, hF⟩ := q_gd_e hF
          refine ql_X_X3_powers hM hP h21 dX0_addToBunch_120 ?_
          refine lv_icmp_le (tgt := 132) hx hb dX0_addToBunch_121 (by decide) (fun c22 => ?_) (fun c22 => ?_)
          · have hF := q_it hF c22
            exact hRet _ _ _ _ _ hF dX0_addToBunch_132 hP hD hS
          · have hF := q_ie hF c22
            refine lv_aload_n hx hb dX0_addToBunch_124 rfl (lv_at hl 0 rfl) ?_
            refine qg_X_X0_peaks hM hP fl_X0_24 dX0_addToBunch_125 ?_
            refine lv_iload hx hb dX0_addToBunch_128 (lv_at hl 3 rfl) ?_
            refine lv_iload_n hx hb dX0_addToBunch_130 rfl (lv_at hl 1 rfl) ?_
            obtain ⟨h23, hF⟩ := q_gd_e hF
            refine qs_X_X0_peaks hM hP hD hS h23 dX0_addToBunch_131 (fun x24 H locs ex24 hP hD hS => ?_)
            have hF := q_let_e hF ex24
            exact hRet _ _ _ _ _ hF dX0_addToBunch_132 hP hD hS
        refine lv_if_ne (tgt := 87) hx hb dX0_addToBunch_58 (by decide) (fun c8 => ?_) (fun c8 => ?_)
        · have hF := q_ie hF c8
          exact K87 _ _ _ _ (lv_sub hl [1, 2, 3, 0] rfl) hP hD hS hF
        · have hF := q_it hF c8
          refine lv_aload_n hx hb dX0_addToBunch_61 rfl (lv_at hl 1 rfl) ?_
          refine qg_X_X0_firsts hM hP fl_X0_18 dX0_addToBunch_62 ?_
          refine lv_iload hx hb dX0_addToBunch_65 (lv_at hl 0 rfl) ?_
          refine lv_iload_n hx hb dX0_addToBunch_67 rfl (lv_at hl 2 rfl) ?_
          obtain ⟨h9, hF⟩ := q_gd_e hF
          refine qs_X_X0_firsts hM hP hD hS h9 dX0_addToBunch_68 (fun x10 H locs ex10 hP hD hS => ?_)
          have hF := q_let_e hF ex10
          refine lv_aload_n hx hb dX0_addToBunch_69 rfl (lv_at hl 1 rfl) ?_
          refine qg_X_X0_peaks hM hP fl_X0_24 dX0_addToBunch_70 ?_
          refine lv_iload hx hb dX0_addToBunch_73 (lv_at hl 0 rfl) ?_
          refine lv_iload_n hx hb dX0_addToBunch_75 rfl (lv_at hl 2 rfl) ?_
          obtain ⟨h11, hF⟩ := q_gd_e hF
          refine qs_X_X0_peaks hM hP hD hS h11 dX0_addToBunch_76 (fun x12 H locs ex12 hP hD hS => ?_)
          have hF := q_let_e hF ex12
          refine lv_aload_n hx hb dX0_addToBunch_77 rfl (lv_at hl 1 rfl) ?_
          refine lv_dup hx hb dX0_addToBunch_78 rfl ?_
          refine qg_X_X0_bunches hM hP fl_X0_37 dX0_addToBunch_79 ?_
          refine lv_iconst (v := 1) hx hb dX0_addToBunch_82 (by decide) ?_
          refine lv_iadd hx hb dX0_addToBunch_83 ?_
          refine qp_X_X0_bunches hM hP hD hS fl_X0_37 dX0_addToBunch_84 (fun x13 H locs ex13 hP hD hS => ?_)
          have hF := q_let_e hF ex13
          exact K87 _ _ _ _ (lv_sub hl [1, 2, 3, 0] rfl) hP hD hS hF
      · have hF := q_ie hF c7
        exact hRet _ _ _ _ _ hF dX0_addToBunch_56 hP hD hS
    refine lv_if_eq (tgt := 43) hx hb dX0_addToBunch_31 (by decide) (fun c5 => ?_) (fun c5 => ?_)
    · have hF := q_it hF c5
      refine lv_aload_n hx hb dX0_addToBunch_43 rfl (lv_at hl 1 rfl) ?_
      refine qg_X_X0_bunches hM hP fl_X0_37 dX0_addToBunch_44 ?_
      exact K47 _ _ _ _ (lv_sub hl [1, 2, 3, 0] rfl) hP hD hS hF
    · have hF := q_ie hF c5
      refine lv_aload_n hx hb dX0_addToBunch_34 rfl (lv_at hl 1 rfl) ?_
      refine qg_X_X0_bunches hM hP fl_X0_37 dX0_addToBunch_35 ?_
      refine lv_iconst (v := 1) hx hb dX0_addToBunch_38 (by decide) ?_
      refine lv_isub hx hb dX0_addToBunch_39 ?_
      refine lv_goto (tgt := 47) hx hb dX0_addToBunch_40 (by decide) ?_
      exact K47 _ _ _ _ (lv_sub hl [1, 2, 3, 0] rfl) hP hD hS hF
  obtain ⟨J28, hJ28, hF⟩ := q_jn_e hF
  have K28 : ∀ (H : Heap) (locs : List Loc) (ls : Array Slot), lv_has ls 5 [(0, .ref (ad 4)), (1, .int a1), (2, .ref (ad 3))] → va_P D vwCl (q_WX cI cJ ad x j) H → va_D A (q_WX cI cJ ad x j) → va_S A s.heap H locs → J28 = some res → W p l e { frames := 0, cells := 0, slots := 0, locals := 0 } s m args below meth c H locs 0 0 Q (F0 m 28 ls []) := by
    clear hF; intro H locs ls hl hP hD hS hF
    rw [hJ28] at hF
    refine lv_iconst (v := 0) hx hb dX0_addToBunch_28 (by decide) ?_
    exact K29 _ _ _ _ (lv_sub hl [0, 1, 2] rfl) hP hD hS hF
  refine lv_if_le (tgt := 28) hx hb dX0_addToBunch_4 (by decide) (fun c1 => ?_) (fun c1 => ?_)
  · have hF := q_it hF c1
    exact K28 _ _ _ (lv_sub hl [0, 1, 2] rfl) hP hD hS hF
  · have hF := q_ie hF c1
    refine lv_aload_n hx hb dX0_addToBunch_7 rfl (lv_at hl 0 rfl) ?_
    refine qg_X_X0_lasts hM hP fl_X0_21 dX0_addToBunch_8 ?_
    refine lv_aload_n hx hb dX0_addToBunch_11 rfl (lv_at hl 0 rfl) ?_
    refine qg_X_X0_bunches hM hP fl_X0_37 dX0_addToBunch_12 ?_
    refine lv_iconst (v := 1) hx hb dX0_addToBunch_15 (by decide) ?_
    refine lv_isub hx hb dX0_addToBunch_16 ?_
    obtain ⟨h2, hF⟩ := q_gd_e hF
    refine ql_X_X0_lasts hM hP h2 dX0_addToBunch_17 ?_
    refine lv_iload_n hx hb dX0_addToBunch_18 rfl (lv_at hl 1 rfl) ?_
    refine lv_iconst (v := 1) hx hb dX0_addToBunch_19 (by decide) ?_
    refine lv_isub hx hb dX0_addToBunch_20 ?_
    refine lv_icmp_ne (tgt := 28) hx hb dX0_addToBunch_21 (by decide) (fun c3 => ?_) (fun c3 => ?_)
    · have hF := q_ie hF c3
      exact K28 _ _ _ (lv_sub hl [0, 1, 2] rfl) hP hD hS hF
    · have hF := q_it hF c3
      refine lv_iconst (v := 1) hx hb dX0_addToBunch_24 (by decide) ?_
      refine lv_goto (tgt := 29) hx hb dX0_addToBunch_25 (by decide) ?_
      exact K29 _ _ _ _ (lv_sub hl [0, 1, 2] rfl) hP hD hS hF
theorem ky_X0_settle : q_Y yX0_settle cX0_settle 3 none 1 := ⟨cw_X0_settle, im_X0_settle, se_X0_settle, in_X0, by decide +kernel⟩
set_option maxHeartbeats 4000000 in
set_option maxRecDepth 100000 in
theorem c_X0_settle (l : Launch) (D : va_G) (cI cJ : ClassId) (g : Nat → Nat) (ad : Nat → Nat) (j : JS) (x : IS) (res : IS) (hF : f_X0_settle x = some res) : q_Mv l yX0_settle cX0_settle 3 { frames := 5, cells := 0, slots := 0, locals := 119 } D cI cJ g (q_WX cI cJ ad x j) [.ref (ad 4), .ref (ad 3)] (q_WX cI cJ ad res j) := by
  refine q_ofv (res := res) (fun u : IS => (q_WX cI cJ ad u j)) pl_X0 (Nat.le_of_ble_eq_true rfl) ?_
  intro p e s m args below meth c A Q hM hRet ls hl hP hD hS
  have hx := hM.1.1
  have hb := hM.1.2.1
  have hl : lv_has ls 3 [(0, .ref (ad 4)), (1, .ref (ad 3))] := hl
  unfold f_X0_settle at hF
  refine lv_aload_n hx hb dX0_settle_0 rfl (lv_at hl 1 rfl) ?_
  refine qg_X_X3_changed hM hP fl_X0_27 dX0_settle_1 ?_
  refine lv_if_ne (tgt := 8) hx hb dX0_settle_4 (by decide) (fun c1 => ?_) (fun c1 => ?_)
  · have hF := q_ie hF c1
    refine lv_aload_n hx hb dX0_settle_8 rfl (lv_at hl 1 rfl) ?_
    refine lv_iconst (v := 0) hx hb dX0_settle_9 (by decide) ?_
    refine qp_X_X3_changed hM hP hD hS rfl rfl fl_X0_27 dX0_settle_10 (fun x2 H locs ex2 hP hD hS => ?_)
    have hF := q_let_e hF ex2
    refine lv_aload_n hx hb dX0_settle_13 rfl (lv_at hl 0 rfl) ?_
    refine lv_iconst (v := 0) hx hb dX0_settle_14 (by decide) ?_
    refine qp_X_X0_howMany hM hP hD hS fl_X0_33 dX0_settle_15 (fun x3 H locs ex3 hP hD hS => ?_)
    have hF := q_let_e hF ex3
    refine lv_aload_n hx hb dX0_settle_18 rfl (lv_at hl 0 rfl) ?_
    refine lv_iconst (v := 0) hx hb dX0_settle_19 (by decide) ?_
    refine qp_X_X0_bunches hM hP hD hS fl_X0_37 dX0_settle_20 (fun x4 H locs ex4 hP hD hS => ?_)
    have hF := q_let_e hF ex4
    refine lv_iconst (v := 0) hx hb dX0_settle_23 (by decide) ?_
    refine lv_istore_n (lv' := [(2, .int (0 : Int32)), (0, .ref (ad 4)), (1, .ref (ad 3))]) hx hb dX0_settle_24 rfl hl (by decide) rfl (fun ls hl => ?_)
    have L25 : ∀ (k : IS → Option (IS)) (n : Nat) (v5 : Int32) (x6 : IS) (H : Heap) (locs : List Loc) (ls : Array Slot), lv_has ls 3 [(0, .ref (ad 4)), (1, .ref (ad 3)), (2, .int v5)] → va_P D vwCl (q_WX cI cJ ad x6 j) H → va_D A (q_WX cI cJ ad x6 j) → va_S A s.heap H locs → (∀ (x7 : IS) (H : Heap) (locs : List Loc) (ls : Array Slot), lv_has ls 3 [] → va_P D vwCl (q_WX cI cJ ad x7 j) H → va_D A (q_WX cI cJ ad x7 j) → va_S A s.heap H locs → k x7 = some res → W p l e { frames := 5, cells := 0, slots := 0, locals := 119 } s m args below meth c H locs 0 0 Q (F0 m 102 ls [])) → f_X0_settle_L25 k n v5 x6 = some res → W p l e { frames := 5, cells := 0, slots := 0, locals := 119 } s m args below meth c H locs 0 0 Q (F0 m 25 ls []) := by
      intro k n
      induction n with
      | zero => intro v5 x6 H locs ls hl hP hD hS hk hF; exact q_no hF
      | succ n ih =>
        intro v5 x6 H locs ls hl hP hD hS hk hF
        have hF : f_X0_settle_L25F k (f_X0_settle_L25 k n) v5 x6 = some res := hF
        unfold f_X0_settle_L25F at hF
        refine lv_iload_n hx hb dX0_settle_25 rfl (lv_at hl 2 rfl) ?_
        refine lv_aload_n hx hb dX0_settle_26 rfl (lv_at hl 1 rfl) ?_
        refine qg_X_X3_size hM hP fl_X0_40 dX0_settle_27 ?_
        refine lv_icmp_ge (tgt := 102) hx hb dX0_settle_30 (by decide) (fun c8 => ?_) (fun c8 => ?_)
        · have hF := q_it hF c8
          exact hk _ _ _ _ (lv_sub hl [] rfl) hP hD hS hF
        · have hF := q_ie hF c8
          refine lv_iload_n hx hb dX0_settle_33 rfl (lv_at hl 2 rfl) ?_
          refine lv_bipush (v := 48) hx hb dX0_settle_34 (by decide) ?_
          refine lv_icmp_ge (tgt := 102) hx hb dX0_settle_36 (by decide) (fun c9 => ?_) (fun c9 => ?_)
          · have hF := q_it hF c9
            exact hk _ _ _ _ (lv_sub hl [] rfl) hP hD hS hF
          · have hF := q_ie hF c9
            refine lv_aload_n hx hb dX0_settle_39 rfl (lv_at hl 0 rfl) ?_
            refine qg_X_X0_floors hM hP fl_X0_9 dX0_settle_40 ?_
            refine lv_iload_n hx hb dX0_settle_43 rfl (lv_at hl 2 rfl) ?_
            refine lv_aload_n hx hb dX0_settle_44 rfl (lv_at hl 1 rfl) ?_
            refine lv_iload_n hx hb dX0_settle_45 rfl (lv_at hl 2 rfl) ?_
            refine lv_bipush (v := -4) hx hb dX0_settle_46 (by decide) ?_
            obtain ⟨r10, x11, hC12, hF⟩ := q_b2_e hF
            refine q_calli hM (c_X3_floorOf l D cI cJ g ad j _ _ _ _ hC12) hP hD hS ky_X3_floorOf ml_X0_43 rfl rfl ⟨Nat.le_of_ble_eq_true rfl, Nat.le_of_ble_eq_true rfl⟩ 3 rfl rfl rfl hl.1 rfl (Nat.le_of_ble_eq_true rfl) ⟨Nat.zero_le _, Nat.zero_le _⟩ dX0_settle_48 (fun H locs hz13 hP hD hS => ?_)
            obtain ⟨h14, hF⟩ := q_gd_e hF
            refine qs_X_X0_floors hM hP hD hS h14 dX0_settle_51 (fun x15 H locs ex15 hP hD hS => ?_)
            have hF := q_let_e hF ex15
            refine lv_aload_n hx hb dX0_settle_52 rfl (lv_at hl 0 rfl) ?_
            refine qg_X_X0_bunchOf hM hP fl_X0_15 dX0_settle_53 ?_
            refine lv_iload_n hx hb dX0_settle_56 rfl (lv_at hl 2 rfl) ?_
            refine lv_bipush (v := -4) hx hb dX0_settle_57 (by decide) ?_
            obtain ⟨h16, hF⟩ := q_gd_e hF
            refine qs_X_X0_bunchOf hM hP hD hS h16 dX0_settle_59 (fun x17 H locs ex17 hP hD hS => ?_)
            have hF := q_let_e hF ex17
            refine lv_aload_n hx hb dX0_settle_60 rfl (lv_at hl 1 rfl) ?_
            refine lv_iload_n hx hb dX0_settle_61 rfl (lv_at hl 2 rfl) ?_
            refine lv_aload_n hx hb dX0_settle_62 rfl (lv_at hl 0 rfl) ?_
            refine qg_X_X0_floors hM hP fl_X0_9 dX0_settle_63 ?_
            refine lv_iload_n hx hb dX0_settle_66 rfl (lv_at hl 2 rfl) ?_
            obtain ⟨h18, hF⟩ := q_gd_e hF
            refine ql_X_X0_floors hM hP h18 dX0_settle_67 ?_
            refine lv_aload_n hx hb dX0_settle_68 rfl (lv_at hl 1 rfl) ?_
            refine qg_X_X3_look hM hP fl_X0_47 dX0_settle_69 ?_
            refine lv_iconst (v := 3) hx hb dX0_settle_72 (by decide) ?_
            refine ql_X_X3_look hM hP (by decide) dX0_settle_73 ?_
            obtain ⟨r19, hC20, hF⟩ := q_b1_e hF
            refine q_calli hM (c_X3_outdoes l D cI cJ g ad j _ _ _ _ _ hC20) hP hD hS ky_X3_outdoes ml_X0_50 rfl rfl ⟨Nat.le_of_ble_eq_true rfl, Nat.le_of_ble_eq_true rfl⟩ 3 rfl rfl rfl hl.1 rfl (Nat.le_of_ble_eq_true rfl) ⟨Nat.zero_le _, Nat.zero_le _⟩ dX0_settle_74 (fun H locs hz21 hP hD hS => ?_)
            obtain ⟨J96, hJ96, hF⟩ := q_jn_e hF
            have K96 : ∀ (x26 : IS) (H : Heap) (locs : List Loc) (ls : Array Slot), lv_has ls 3 [(0, .ref (ad 4)), (1, .ref (ad 3)), (2, .int v5)] → va_P D vwCl (q_WX cI cJ ad x26 j) H → va_D A (q_WX cI cJ ad x26 j) → va_S A s.heap H locs → J96 x26 = some res → W p l e { frames := 5, cells := 0, slots := 0, locals := 119 } s m args below meth c H locs 0 0 Q (F0 m 96 ls []) := by
              clear hF; intro x26 H locs ls hl hP hD hS hF
              rw [hJ96] at hF
              try dsimp only at hF
              obtain ⟨v27, ev27⟩ : ∃ y : Int32, y = v5 + 1 := ⟨_, rfl⟩
              have hF := q_let_e hF ev27
              refine lv_iinc (v := v27) (lv' := [(2, .int v27), (0, .ref (ad 4)), (1, .ref (ad 3))]) hx hb dX0_settle_96 hl (k := 2) rfl (by rw [ev27]; rfl) (by decide) rfl (fun ls hl => ?_)
              refine lv_goto (tgt := 25) hx hb dX0_settle_99 (by decide) ?_
              exact ih _ _ _ _ _ (lv_sub hl [1, 2, 0] rfl) hP hD hS hk hF
            refine lv_if_eq (tgt := 96) hx hb dX0_settle_77 (by decide) (fun c22 => ?_) (fun c22 => ?_)
            · have hF := q_it hF c22
              exact K96 _ _ _ _ (lv_sub hl [0, 1, 2] rfl) hP hD hS hF
            · have hF := q_ie hF c22
              refine lv_aload_n hx hb dX0_settle_80 rfl (lv_at hl 0 rfl) ?_
              refine lv_dup hx hb dX0_settle_81 rfl ?_
              refine qg_X_X0_howMany hM hP fl_X0_33 dX0_settle_82 ?_
              refine lv_iconst (v := 1) hx hb dX0_settle_85 (by decide) ?_
              refine lv_iadd hx hb dX0_settle_86 ?_
              refine qp_X_X0_howMany hM hP hD hS fl_X0_33 dX0_settle_87 (fun x23 H locs ex23 hP hD hS => ?_)
              have hF := q_let_e hF ex23
              refine lv_aload_n hx hb dX0_settle_90 rfl (lv_at hl 0 rfl) ?_
              refine lv_iload_n hx hb dX0_settle_91 rfl (lv_at hl 2 rfl) ?_
              refine lv_aload_n hx hb dX0_settle_92 rfl (lv_at hl 1 rfl) ?_
              obtain ⟨x24, hC25, hF⟩ := q_b1_e hF
              refine q_callv hM (c_X0_addToBunch l D cI cJ g ad j _ _ _ hC25) hP hD hS ky_X0_addToBunch ml_X0_54 rfl rfl ⟨Nat.le_of_ble_eq_true rfl, Nat.le_of_ble_eq_true rfl⟩ 4 rfl rfl rfl hl.1 rfl (Nat.le_of_ble_eq_true rfl) ⟨Nat.zero_le _, Nat.zero_le _⟩ dX0_settle_93 (fun H locs hP hD hS => ?_)
              exact K96 _ _ _ _ (lv_sub hl [0, 1, 2] rfl) hP hD hS hF
    refine L25 _ _ _ _ _ _ _ (lv_sub hl [1, 2, 0] rfl) hP hD hS ?_ hF
    clear hF
    intro x7 H locs ls hl hP hD hS hF
    exact hRet _ _ _ _ _ hF dX0_settle_102 hP hD hS
  · have hF := q_it hF c1
    exact hRet _ _ _ _ _ hF dX0_settle_7 hP hD hS
theorem ky_X0_howManyBy : q_Y yX0_howManyBy cX0_howManyBy 5 (some .int) 2 := ⟨cw_X0_howManyBy, im_X0_howManyBy, se_X0_howManyBy, in_X0, by decide +kernel⟩
set_option maxHeartbeats 4000000 in
set_option maxRecDepth 100000 in
theorem c_X0_howManyBy (l : Launch) (D : va_G) (cI cJ : ClassId) (g : Nat → Nat) (ad : Nat → Nat) (j : JS) (x : IS) (a1 : Int32) (res : Int32) (hF : f_X0_howManyBy x a1 = some res) : q_Mi l yX0_howManyBy cX0_howManyBy 5 .int { frames := 2, cells := 0, slots := 0, locals := 44 } D cI cJ g (q_WX cI cJ ad x j) [.ref (ad 4), .int a1, .ref (ad 3)] (res) (q_WX cI cJ ad x j) := by
  refine q_ofi (res := res) (fun u : Int32 => u) (fun _ : Int32 => (q_WX cI cJ ad x j)) pl_X0 (Nat.le_of_ble_eq_true rfl) ?_
  intro p e s m args below meth c A Q hM hRet ls hl hP hD hS
  have hx := hM.1.1
  have hb := hM.1.2.1
  have hl : lv_has ls 5 [(0, .ref (ad 4)), (1, .int a1), (2, .ref (ad 3))] := hl
  unfold f_X0_howManyBy at hF
  refine lv_iconst (v := 0) hx hb dX0_howManyBy_0 (by decide) ?_
  refine lv_istore_n (lv' := [(3, .int (0 : Int32)), (0, .ref (ad 4)), (1, .int a1), (2, .ref (ad 3))]) hx hb dX0_howManyBy_1 rfl hl (by decide) rfl (fun ls hl => ?_)
  refine lv_iconst (v := 0) hx hb dX0_howManyBy_2 (by decide) ?_
  refine lv_istore (lv' := [(4, .int (0 : Int32)), (3, .int (0 : Int32)), (0, .ref (ad 4)), (1, .int a1), (2, .ref (ad 3))]) hx hb dX0_howManyBy_3 hl (by decide) rfl (fun ls hl => ?_)
  have L5 : ∀ (k : Int32 → Option (Int32)) (n : Nat) (v1 : Int32) (v2 : Int32) (H : Heap) (locs : List Loc) (ls : Array Slot), lv_has ls 5 [(0, .ref (ad 4)), (1, .int a1), (2, .ref (ad 3)), (3, .int v1), (4, .int v2)] → va_P D vwCl (q_WX cI cJ ad x j) H → va_D A (q_WX cI cJ ad x j) → va_S A s.heap H locs → (∀ (e3 : Int32) (H : Heap) (locs : List Loc) (ls : Array Slot), lv_has ls 5 [(3, .int e3)] → va_P D vwCl (q_WX cI cJ ad x j) H → va_D A (q_WX cI cJ ad x j) → va_S A s.heap H locs → k e3 = some res → W p l e { frames := 2, cells := 0, slots := 0, locals := 44 } s m args below meth c H locs 0 0 Q (F0 m 47 ls [])) → f_X0_howManyBy_L5 x a1 k n v1 v2 = some res → W p l e { frames := 2, cells := 0, slots := 0, locals := 44 } s m args below meth c H locs 0 0 Q (F0 m 5 ls []) := by
    intro k n
    induction n with
    | zero => intro v1 v2 H locs ls hl hP hD hS hk hF; exact q_no hF
    | succ n ih =>
      intro v1 v2 H locs ls hl hP hD hS hk hF
      have hF : f_X0_howManyBy_L5F x a1 k (f_X0_howManyBy_L5 x a1 k n) v1 v2 = some res := hF
      unfold f_X0_howManyBy_L5F at hF
      refine lv_iload hx hb dX0_howManyBy_5 (lv_at hl 4 rfl) ?_
      refine lv_aload_n hx hb dX0_howManyBy_7 rfl (lv_at hl 2 rfl) ?_
      refine qg_X_X3_size hM hP fl_X0_40 dX0_howManyBy_8 ?_
      refine lv_icmp_ge (tgt := 47) hx hb dX0_howManyBy_11 (by decide) (fun c4 => ?_) (fun c4 => ?_)
      · have hF := q_it hF c4
        exact hk _ _ _ _ (lv_sub hl [3] rfl) hP hD hS hF
      · have hF := q_ie hF c4
        refine lv_iload hx hb dX0_howManyBy_14 (lv_at hl 4 rfl) ?_
        refine lv_bipush (v := 48) hx hb dX0_howManyBy_16 (by decide) ?_
        refine lv_icmp_ge (tgt := 47) hx hb dX0_howManyBy_18 (by decide) (fun c5 => ?_) (fun c5 => ?_)
        · have hF := q_it hF c5
          exact hk _ _ _ _ (lv_sub hl [3] rfl) hP hD hS hF
        · have hF := q_ie hF c5
          refine lv_aload_n hx hb dX0_howManyBy_21 rfl (lv_at hl 2 rfl) ?_
          refine lv_iload hx hb dX0_howManyBy_22 (lv_at hl 4 rfl) ?_
          refine lv_aload_n hx hb dX0_howManyBy_24 rfl (lv_at hl 0 rfl) ?_
          refine qg_X_X0_floors hM hP fl_X0_9 dX0_howManyBy_25 ?_
          refine lv_iload hx hb dX0_howManyBy_28 (lv_at hl 4 rfl) ?_
          obtain ⟨h6, hF⟩ := q_gd_e hF
          refine ql_X_X0_floors hM hP h6 dX0_howManyBy_30 ?_
          refine lv_iload_n hx hb dX0_howManyBy_31 rfl (lv_at hl 1 rfl) ?_
          obtain ⟨r7, hC8, hF⟩ := q_b1_e hF
          refine q_calli hM (c_X3_outdoes l D cI cJ g ad j _ _ _ _ _ hC8) hP hD hS ky_X3_outdoes ml_X0_50 rfl rfl ⟨Nat.le_of_ble_eq_true rfl, Nat.le_of_ble_eq_true rfl⟩ 3 rfl rfl rfl hl.1 rfl (Nat.le_of_ble_eq_true rfl) ⟨Nat.zero_le _, Nat.zero_le _⟩ dX0_howManyBy_32 (fun H locs hz9 hP hD hS => ?_)
          obtain ⟨J41, hJ41, hF⟩ := q_jn_e hF
          have K41 : ∀ (v12 : Int32) (H : Heap) (locs : List Loc) (ls : Array Slot), lv_has ls 5 [(0, .ref (ad 4)), (1, .int a1), (2, .ref (ad 3)), (3, .int v12), (4, .int v2)] → va_P D vwCl (q_WX cI cJ ad x j) H → va_D A (q_WX cI cJ ad x j) → va_S A s.heap H locs → J41 v12 = some res → W p l e { frames := 2, cells := 0, slots := 0, locals := 44 } s m args below meth c H locs 0 0 Q (F0 m 41 ls []) := by
            clear hF; intro v12 H locs ls hl hP hD hS hF
            rw [hJ41] at hF
            try dsimp only at hF
            obtain ⟨v13, ev13⟩ : ∃ y : Int32, y = v2 + 1 := ⟨_, rfl⟩
            have hF := q_let_e hF ev13
            refine lv_iinc (v := v13) (lv' := [(4, .int v13), (0, .ref (ad 4)), (1, .int a1), (2, .ref (ad 3)), (3, .int v12)]) hx hb dX0_howManyBy_41 hl (k := 4) rfl (by rw [ev13]; rfl) (by decide) rfl (fun ls hl => ?_)
            refine lv_goto (tgt := 5) hx hb dX0_howManyBy_44 (by decide) ?_
            exact ih _ _ _ _ _ (lv_sub hl [1, 2, 3, 4, 0] rfl) hP hD hS hk hF
          refine lv_if_eq (tgt := 41) hx hb dX0_howManyBy_35 (by decide) (fun c10 => ?_) (fun c10 => ?_)
          · have hF := q_it hF c10
            exact K41 _ _ _ _ (lv_sub hl [0, 1, 2, 3, 4] rfl) hP hD hS hF
          · have hF := q_ie hF c10
            obtain ⟨v11, ev11⟩ : ∃ y : Int32, y = v1 + 1 := ⟨_, rfl⟩
            have hF := q_let_e hF ev11
            refine lv_iinc (v := v11) (lv' := [(3, .int v11), (0, .ref (ad 4)), (1, .int a1), (2, .ref (ad 3)), (4, .int v2)]) hx hb dX0_howManyBy_38 hl (k := 3) rfl (by rw [ev11]; rfl) (by decide) rfl (fun ls hl => ?_)
            exact K41 _ _ _ _ (lv_sub hl [1, 2, 3, 0, 4] rfl) hP hD hS hF
  refine L5 _ _ _ _ _ _ _ (lv_sub hl [2, 3, 4, 1, 0] rfl) hP hD hS ?_ hF
  clear hF
  intro e3 H locs ls hl hP hD hS hF
  refine lv_iload_n hx hb dX0_howManyBy_47 rfl (lv_at hl 0 rfl) ?_
  exact hRet e3 _ _ _ _ hF rfl dX0_howManyBy_48 hP hD hS
theorem ky_X0_letterOf : q_Y yX0_letterOf cX0_letterOf 3 (some .int) 1 := ⟨cw_X0_letterOf, im_X0_letterOf, se_X0_letterOf, in_X0, by decide +kernel⟩
set_option maxHeartbeats 4000000 in
set_option maxRecDepth 100000 in
theorem c_X0_letterOf (l : Launch) (D : va_G) (cI cJ : ClassId) (g : Nat → Nat) (ad : Nat → Nat) (j : JS) (x : IS) (a1 : Int32) (res : Int32) (hF : f_X0_letterOf x a1 = some res) : q_Mi l yX0_letterOf cX0_letterOf 3 .int { frames := 0, cells := 0, slots := 0, locals := 0 } D cI cJ g (q_WX cI cJ ad x j) [.ref (ad 4), .int a1] (res) (q_WX cI cJ ad x j) := by
  refine q_ofi (res := res) (fun u : Int32 => u) (fun _ : Int32 => (q_WX cI cJ ad x j)) pl_X0 (Nat.le_of_ble_eq_true rfl) ?_
  intro p e s m args below meth c A Q hM hRet ls hl hP hD hS
  have hx := hM.1.1
  have hb := hM.1.2.1
  have hl : lv_has ls 3 [(0, .ref (ad 4)), (1, .int a1)] := hl
  unfold f_X0_letterOf at hF
  refine lv_aload_n hx hb dX0_letterOf_0 rfl (lv_at hl 0 rfl) ?_
  refine qg_X_X0_bunchOf hM hP fl_X0_15 dX0_letterOf_1 ?_
  refine lv_iload_n hx hb dX0_letterOf_4 rfl (lv_at hl 1 rfl) ?_
  obtain ⟨h1, hF⟩ := q_gd_e hF
  refine ql_X_X0_bunchOf hM hP h1 dX0_letterOf_5 ?_
  refine lv_topi (fun v2 ev2 => ?_)
  have hF := q_let_e hF ev2
  refine lv_istore_n (lv' := [(2, .int v2), (0, .ref (ad 4)), (1, .int a1)]) hx hb dX0_letterOf_6 rfl hl (by decide) rfl (fun ls hl => ?_)
  refine lv_iload_n hx hb dX0_letterOf_7 rfl (lv_at hl 0 rfl) ?_
  refine lv_if_lt (tgt := 19) hx hb dX0_letterOf_8 (by decide) (fun c3 => ?_) (fun c3 => ?_)
  · have hF := q_it hF c3
    refine lv_bipush (v := 46) hx hb dX0_letterOf_19 (by decide) ?_
    exact hRet (46 : Int32) _ _ _ _ hF rfl dX0_letterOf_21 hP hD hS
  · have hF := q_ie hF c3
    refine lv_iload_n hx hb dX0_letterOf_11 rfl (lv_at hl 0 rfl) ?_
    refine lv_aload_n hx hb dX0_letterOf_12 rfl (lv_at hl 1 rfl) ?_
    refine qg_X_X0_bunches hM hP fl_X0_37 dX0_letterOf_13 ?_
    refine lv_icmp_lt (tgt := 22) hx hb dX0_letterOf_16 (by decide) (fun c4 => ?_) (fun c4 => ?_)
    · have hF := q_it hF c4
      refine lv_aload_n hx hb dX0_letterOf_22 rfl (lv_at hl 1 rfl) ?_
      refine qg_X_X0_peaks hM hP fl_X0_24 dX0_letterOf_23 ?_
      refine lv_iload_n hx hb dX0_letterOf_26 rfl (lv_at hl 0 rfl) ?_
      obtain ⟨h5, hF⟩ := q_gd_e hF
      refine ql_X_X0_peaks hM hP h5 dX0_letterOf_27 ?_
      refine lv_iload_n hx hb dX0_letterOf_28 rfl (lv_at hl 2 rfl) ?_
      refine lv_icmp_ne (tgt := 37) hx hb dX0_letterOf_29 (by decide) (fun c6 => ?_) (fun c6 => ?_)
      · have hF := q_ie hF c6
        refine lv_bipush (v := 33) hx hb dX0_letterOf_37 (by decide) ?_
        exact hRet (33 : Int32) _ _ _ _ hF rfl dX0_letterOf_39 hP hD hS
      · have hF := q_it hF c6
        refine lv_bipush (v := 94) hx hb dX0_letterOf_32 (by decide) ?_
        refine lv_goto (tgt := 39) hx hb dX0_letterOf_34 (by decide) ?_
        exact hRet (94 : Int32) _ _ _ _ hF rfl dX0_letterOf_39 hP hD hS
    · have hF := q_ie hF c4
      refine lv_bipush (v := 46) hx hb dX0_letterOf_19 (by decide) ?_
      exact hRet (46 : Int32) _ _ _ _ hF rfl dX0_letterOf_21 hP hD hS
theorem ky_X1_take : q_Y yX1_take cX1_take 3 none 1 := ⟨cw_X1_take, im_X1_take, se_X1_take, in_X1, by decide +kernel⟩
set_option maxHeartbeats 4000000 in
set_option maxRecDepth 100000 in
theorem c_X1_take (l : Launch) (D : va_G) (cI cJ : ClassId) (g : Nat → Nat) (ad : Nat → Nat) (j : JS) (x : IS) (res : IS) (hF : f_X1_take x = some res) : q_Mv l yX1_take cX1_take 3 { frames := 0, cells := 0, slots := 0, locals := 0 } D cI cJ g (q_WX cI cJ ad x j) [.ref (ad 5), .ref (ad 2)] (q_WX cI cJ ad res j) := by
  refine q_ofv (res := res) (fun u : IS => (q_WX cI cJ ad u j)) pl_X1 (Nat.le_of_ble_eq_true rfl) ?_
  intro p e s m args below meth c A Q hM hRet ls hl hP hD hS
  have hx := hM.1.1
  have hb := hM.1.2.1
  have hl : lv_has ls 3 [(0, .ref (ad 5)), (1, .ref (ad 2))] := hl
  unfold f_X1_take at hF
  refine lv_aload_n hx hb dX1_take_0 rfl (lv_at hl 0 rfl) ?_
  refine lv_iconst (v := 0) hx hb dX1_take_1 (by decide) ?_
  refine qp_X_X1_together hM hP hD hS fl_X1_22 dX1_take_2 (fun x1 H locs ex1 hP hD hS => ?_)
  have hF := q_let_e hF ex1
  refine lv_iconst (v := 0) hx hb dX1_take_5 (by decide) ?_
  refine lv_istore_n (lv' := [(2, .int (0 : Int32)), (0, .ref (ad 5)), (1, .ref (ad 2))]) hx hb dX1_take_6 rfl hl (by decide) rfl (fun ls hl => ?_)
  have L7 : ∀ (k : IS → Option (IS)) (n : Nat) (v2 : Int32) (x3 : IS) (H : Heap) (locs : List Loc) (ls : Array Slot), lv_has ls 3 [(0, .ref (ad 5)), (1, .ref (ad 2)), (2, .int v2)] → va_P D vwCl (q_WX cI cJ ad x3 j) H → va_D A (q_WX cI cJ ad x3 j) → va_S A s.heap H locs → (∀ (x4 : IS) (H : Heap) (locs : List Loc) (ls : Array Slot), lv_has ls 3 [] → va_P D vwCl (q_WX cI cJ ad x4 j) H → va_D A (q_WX cI cJ ad x4 j) → va_S A s.heap H locs → k x4 = some res → W p l e { frames := 0, cells := 0, slots := 0, locals := 0 } s m args below meth c H locs 0 0 Q (F0 m 46 ls [])) → f_X1_take_L7 k n v2 x3 = some res → W p l e { frames := 0, cells := 0, slots := 0, locals := 0 } s m args below meth c H locs 0 0 Q (F0 m 7 ls []) := by
    intro k n
    induction n with
    | zero => intro v2 x3 H locs ls hl hP hD hS hk hF; exact q_no hF
    | succ n ih =>
      intro v2 x3 H locs ls hl hP hD hS hk hF
      have hF : f_X1_take_L7F k (f_X1_take_L7 k n) v2 x3 = some res := hF
      unfold f_X1_take_L7F at hF
      refine lv_iload_n hx hb dX1_take_7 rfl (lv_at hl 2 rfl) ?_
      refine lv_bipush (v := 8) hx hb dX1_take_8 (by decide) ?_
      refine lv_icmp_ge (tgt := 46) hx hb dX1_take_10 (by decide) (fun c5 => ?_) (fun c5 => ?_)
      · have hF := q_it hF c5
        exact hk _ _ _ _ (lv_sub hl [] rfl) hP hD hS hF
      · have hF := q_ie hF c5
        refine lv_aload_n hx hb dX1_take_13 rfl (lv_at hl 0 rfl) ?_
        refine qg_X_X1_weights hM hP fl_X1_9 dX1_take_14 ?_
        refine lv_iload_n hx hb dX1_take_17 rfl (lv_at hl 2 rfl) ?_
        refine lv_aload_n hx hb dX1_take_18 rfl (lv_at hl 1 rfl) ?_
        refine qg_X_X5_weights hM hP fl_X1_26 dX1_take_19 ?_
        refine lv_iload_n hx hb dX1_take_22 rfl (lv_at hl 2 rfl) ?_
        obtain ⟨h6, hF⟩ := q_gd_e hF
        refine ql_X_X5_weights hM hP h6 dX1_take_23 ?_
        obtain ⟨h7, hF⟩ := q_gd_e hF
        refine qs_X_X1_weights hM hP hD hS h7 dX1_take_24 (fun x8 H locs ex8 hP hD hS => ?_)
        have hF := q_let_e hF ex8
        refine lv_aload_n hx hb dX1_take_25 rfl (lv_at hl 0 rfl) ?_
        refine lv_dup hx hb dX1_take_26 rfl ?_
        refine qg_X_X1_together hM hP fl_X1_22 dX1_take_27 ?_
        refine lv_aload_n hx hb dX1_take_30 rfl (lv_at hl 0 rfl) ?_
        refine qg_X_X1_weights hM hP fl_X1_9 dX1_take_31 ?_
        refine lv_iload_n hx hb dX1_take_34 rfl (lv_at hl 2 rfl) ?_
        obtain ⟨h9, hF⟩ := q_gd_e hF
        refine ql_X_X1_weights hM hP h9 dX1_take_35 ?_
        refine lv_iadd hx hb dX1_take_36 ?_
        refine qp_X_X1_together hM hP hD hS fl_X1_22 dX1_take_37 (fun x10 H locs ex10 hP hD hS => ?_)
        have hF := q_let_e hF ex10
        obtain ⟨v11, ev11⟩ : ∃ y : Int32, y = v2 + 1 := ⟨_, rfl⟩
        have hF := q_let_e hF ev11
        refine lv_iinc (v := v11) (lv' := [(2, .int v11), (0, .ref (ad 5)), (1, .ref (ad 2))]) hx hb dX1_take_40 hl (k := 2) rfl (by rw [ev11]; rfl) (by decide) rfl (fun ls hl => ?_)
        refine lv_goto (tgt := 7) hx hb dX1_take_43 (by decide) ?_
        exact ih _ _ _ _ _ (lv_sub hl [1, 2, 0] rfl) hP hD hS hk hF
  refine L7 _ _ _ _ _ _ _ (lv_sub hl [1, 2, 0] rfl) hP hD hS ?_ hF
  clear hF
  intro x4 H locs ls hl hP hD hS hF
  exact hRet _ _ _ _ _ hF dX1_take_46 hP hD hS
theorem ky_J7_fill_d0a16__X1_waysByHowMany : q_YS yJ7_fill_d0a16 cJ7_fill_d0a16 5 none 2 := ⟨cw_J7_fill_d0a16, st_J7_fill_d0a16, in_J7, by decide +kernel⟩
set_option maxHeartbeats 4000000 in
set_option maxRecDepth 100000 in
theorem c_J7_fill_d0a16__X1_waysByHowMany (l : Launch) (D : va_G) (cI cJ : ClassId) (g : Nat → Nat) (ad : Nat → Nat) (x : IS) (j : JS) (a2 : Int64) (res : JS) (hF : f_J7_fill_d0a16__X1_waysByHowMany j a2 = some res) : q_Mv l yJ7_fill_d0a16 cJ7_fill_d0a16 5 { frames := 0, cells := 0, slots := 0, locals := 0 } D cI cJ g (q_WX cI cJ ad x j) [.ref (ad 22), .long a2] (q_WX cI cJ ad x res) := by
  refine q_ofv (res := res) (fun u : JS => (q_WX cI cJ ad x u)) pl_J7 (Nat.le_of_ble_eq_true rfl) ?_
  intro p e s m args below meth c A Q hM hRet ls hl hP hD hS
  have hx := hM.1.1
  have hb := hM.1.2.1
  have hl : lv_has ls 5 [(0, .ref (ad 22)), (1, .long a2)] := hl
  unfold f_J7_fill_d0a16__X1_waysByHowMany at hF
  refine lv_iconst (v := 0) hx hb dJ7_fill_d0a16_0 (by decide) ?_
  refine lv_istore_n (lv' := [(3, .int (0 : Int32)), (0, .ref (ad 22)), (1, .long a2)]) hx hb dJ7_fill_d0a16_1 rfl hl (by decide) rfl (fun ls hl => ?_)
  refine lv_aload_n hx hb dJ7_fill_d0a16_2 rfl (lv_at hl 1 rfl) ?_
  refine qn_X_X1_waysByHowMany hM hP dJ7_fill_d0a16_3 ?_
  refine lv_istore (lv' := [(4, .int (13 : Int32)), (3, .int (0 : Int32)), (0, .ref (ad 22)), (1, .long a2)]) hx hb dJ7_fill_d0a16_4 hl (by decide) rfl (fun ls hl => ?_)
  have L6 : ∀ (k : JS → Option (JS)) (n : Nat) (v1 : Int32) (j2 : JS) (H : Heap) (locs : List Loc) (ls : Array Slot), lv_has ls 5 [(0, .ref (ad 22)), (1, .long a2), (3, .int v1), (4, .int (13 : Int32))] → va_P D vwCl (q_WX cI cJ ad x j2) H → va_D A (q_WX cI cJ ad x j2) → va_S A s.heap H locs → (∀ (j3 : JS) (H : Heap) (locs : List Loc) (ls : Array Slot), lv_has ls 5 [] → va_P D vwCl (q_WX cI cJ ad x j3) H → va_D A (q_WX cI cJ ad x j3) → va_S A s.heap H locs → k j3 = some res → W p l e { frames := 0, cells := 0, slots := 0, locals := 0 } s m args below meth c H locs 0 0 Q (F0 m 22 ls [])) → f_J7_fill_d0a16__X1_waysByHowMany_L6 a2 k n v1 j2 = some res → W p l e { frames := 0, cells := 0, slots := 0, locals := 0 } s m args below meth c H locs 0 0 Q (F0 m 6 ls []) := by
    intro k n
    induction n with
    | zero => intro v1 j2 H locs ls hl hP hD hS hk hF; exact q_no hF
    | succ n ih =>
      intro v1 j2 H locs ls hl hP hD hS hk hF
      have hF : f_J7_fill_d0a16__X1_waysByHowMany_L6F a2 k (f_J7_fill_d0a16__X1_waysByHowMany_L6 a2 k n) v1 j2 = some res := hF
      unfold f_J7_fill_d0a16__X1_waysByHowMany_L6F at hF
      refine lv_iload_n hx hb dJ7_fill_d0a16_6 rfl (lv_at hl 2 rfl) ?_
      refine lv_iload hx hb dJ7_fill_d0a16_7 (lv_at hl 3 rfl) ?_
      refine lv_icmp_ge (tgt := 22) hx hb dJ7_fill_d0a16_9 (by decide) (fun c4 => ?_) (fun c4 => ?_)
      · have hF := q_it hF c4
        exact hk _ _ _ _ (lv_sub hl [] rfl) hP hD hS hF
      · have hF := q_ie hF c4
        refine lv_aload_n hx hb dJ7_fill_d0a16_12 rfl (lv_at hl 0 rfl) ?_
        refine lv_iload_n hx hb dJ7_fill_d0a16_13 rfl (lv_at hl 2 rfl) ?_
        refine lv_lload_n hx hb dJ7_fill_d0a16_14 rfl (lv_at hl 1 rfl) ?_
        obtain ⟨h5, hF⟩ := q_gd_e hF
        refine qs_X_X1_waysByHowMany hM hP hD hS h5 dJ7_fill_d0a16_15 (fun j6 H locs ej6 hP hD hS => ?_)
        have hF := q_let_e hF ej6
        obtain ⟨v7, ev7⟩ : ∃ y : Int32, y = v1 + 1 := ⟨_, rfl⟩
        have hF := q_let_e hF ev7
        refine lv_iinc (v := v7) (lv' := [(3, .int v7), (0, .ref (ad 22)), (1, .long a2), (4, .int (13 : Int32))]) hx hb dJ7_fill_d0a16_16 hl (k := 2) rfl (by rw [ev7]; rfl) (by decide) rfl (fun ls hl => ?_)
        refine lv_goto (tgt := 6) hx hb dJ7_fill_d0a16_19 (by decide) ?_
        exact ih _ _ _ _ _ (lv_sub hl [1, 2, 0, 3] rfl) hP hD hS hk hF
  refine L6 _ _ _ _ _ _ _ (lv_sub hl [2, 3, 1, 0] rfl) hP hD hS ?_ hF
  clear hF
  intro j3 H locs ls hl hP hD hS hF
  exact hRet _ _ _ _ _ hF dJ7_fill_d0a16_22 hP hD hS
theorem ky_X1_waysOfRankAtMost : q_Y yX1_waysOfRankAtMost cX1_waysOfRankAtMost 8 (some .long) 3 := ⟨cw_X1_waysOfRankAtMost, im_X1_waysOfRankAtMost, se_X1_waysOfRankAtMost, in_X1, by decide +kernel⟩
set_option maxHeartbeats 4000000 in
set_option maxRecDepth 100000 in
theorem c_X1_waysOfRankAtMost (l : Launch) (D : va_G) (cI cJ : ClassId) (g : Nat → Nat) (ad : Nat → Nat) (x : IS) (j : JS) (a1 : Int32) (a2 : Int32) (a3 : Int32) (res : Int64 × JS) (hF : f_X1_waysOfRankAtMost x j a1 a2 a3 = some res) : q_Ml l yX1_waysOfRankAtMost cX1_waysOfRankAtMost 8 { frames := 1, cells := 0, slots := 0, locals := 24 } D cI cJ g (q_WX cI cJ ad x j) [.ref (ad 5), .int a1, .int a2, .int a3] (res.1) (q_WX cI cJ ad x (res.2)) := by
  refine q_ofl (res := res) (fun u : Int64 × JS => u.1) (fun u : Int64 × JS => (q_WX cI cJ ad x (u.2))) pl_X1 (Nat.le_of_ble_eq_true rfl) ?_
  intro p e s m args below meth c A Q hM hRet ls hl hP hD hS
  have hx := hM.1.1
  have hb := hM.1.2.1
  have hl : lv_has ls 8 [(0, .ref (ad 5)), (1, .int a1), (2, .int a2), (3, .int a3)] := hl
  unfold f_X1_waysOfRankAtMost at hF
  refine lv_aload_n hx hb dX1_waysOfRankAtMost_0 rfl (lv_at hl 0 rfl) ?_
  refine qg_X_X1_together hM hP fl_X1_22 dX1_waysOfRankAtMost_1 ?_
  refine lv_iload_n hx hb dX1_waysOfRankAtMost_4 rfl (lv_at hl 1 rfl) ?_
  refine lv_isub hx hb dX1_waysOfRankAtMost_5 ?_
  refine lv_topi (fun v1 ev1 => ?_)
  have hF := q_let_e hF ev1
  refine lv_istore (lv' := [(4, .int v1), (0, .ref (ad 5)), (1, .int a1), (2, .int a2), (3, .int a3)]) hx hb dX1_waysOfRankAtMost_6 hl (by decide) rfl (fun ls hl => ?_)
  refine lv_aload_n hx hb dX1_waysOfRankAtMost_8 rfl (lv_at hl 1 rfl) ?_
  refine qg_X_X1_waysByHowMany hM hP fl_X1_15 dX1_waysOfRankAtMost_9 ?_
  refine lv_lconst (v := 0) hx hb dX1_waysOfRankAtMost_12 (by decide) ?_
  obtain ⟨j2, hC3, hF⟩ := q_b1_e hF
  refine q_callvS hM (c_J7_fill_d0a16__X1_waysByHowMany l D cI cJ g ad x _ _ _ hC3) hP hD hS ky_J7_fill_d0a16__X1_waysByHowMany ml_X1_41 rfl rfl ⟨Nat.le_of_ble_eq_true rfl, Nat.le_of_ble_eq_true rfl⟩ rfl hl.1 rfl (Nat.le_of_ble_eq_true rfl) ⟨Nat.zero_le _, Nat.zero_le _⟩ dX1_waysOfRankAtMost_13 (fun H locs hP hD hS => ?_)
  refine lv_aload_n hx hb dX1_waysOfRankAtMost_16 rfl (lv_at hl 1 rfl) ?_
  refine qg_X_X1_waysByHowMany hM hP fl_X1_15 dX1_waysOfRankAtMost_17 ?_
  refine lv_iconst (v := 0) hx hb dX1_waysOfRankAtMost_20 (by decide) ?_
  refine lv_lconst (v := 1) hx hb dX1_waysOfRankAtMost_21 (by decide) ?_
  refine qs_X_X1_waysByHowMany hM hP hD hS (by decide) dX1_waysOfRankAtMost_22 (fun j4 H locs ej4 hP hD hS => ?_)
  have hF := q_let_e hF ej4
  refine lv_iconst (v := 1) hx hb dX1_waysOfRankAtMost_23 (by decide) ?_
  refine lv_istore (lv' := [(5, .int (1 : Int32)), (4, .int v1), (0, .ref (ad 5)), (1, .int a1), (2, .int a2), (3, .int a3)]) hx hb dX1_waysOfRankAtMost_24 hl (by decide) rfl (fun ls hl => ?_)
  have L26 : ∀ (k : JS → Option (Int64 × JS)) (n : Nat) (v5 : Int32) (j6 : JS) (H : Heap) (locs : List Loc) (ls : Array Slot), lv_has ls 8 [(0, .ref (ad 5)), (1, .int a1), (2, .int a2), (3, .int a3), (4, .int v1), (5, .int v5)] → va_P D vwCl (q_WX cI cJ ad x j6) H → va_D A (q_WX cI cJ ad x j6) → va_S A s.heap H locs → (∀ (j7 : JS) (H : Heap) (locs : List Loc) (ls : Array Slot), lv_has ls 8 [(0, .ref (ad 5)), (2, .int a2), (3, .int a3)] → va_P D vwCl (q_WX cI cJ ad x j7) H → va_D A (q_WX cI cJ ad x j7) → va_S A s.heap H locs → k j7 = some res → W p l e { frames := 1, cells := 0, slots := 0, locals := 24 } s m args below meth c H locs 0 0 Q (F0 m 103 ls [])) → f_X1_waysOfRankAtMost_L26 x a1 a2 a3 v1 k n v5 j6 = some res → W p l e { frames := 1, cells := 0, slots := 0, locals := 24 } s m args below meth c H locs 0 0 Q (F0 m 26 ls []) := by
    intro k n
    induction n with
    | zero => intro v5 j6 H locs ls hl hP hD hS hk hF; exact q_no hF
    | succ n ih =>
      intro v5 j6 H locs ls hl hP hD hS hk hF
      have hF : f_X1_waysOfRankAtMost_L26F x a1 a2 a3 v1 k (f_X1_waysOfRankAtMost_L26 x a1 a2 a3 v1 k n) v5 j6 = some res := hF
      unfold f_X1_waysOfRankAtMost_L26F at hF
      refine lv_iload hx hb dX1_waysOfRankAtMost_26 (lv_at hl 5 rfl) ?_
      refine lv_iload_n hx hb dX1_waysOfRankAtMost_28 rfl (lv_at hl 2 rfl) ?_
      refine lv_icmp_gt (tgt := 103) hx hb dX1_waysOfRankAtMost_29 (by decide) (fun c8 => ?_) (fun c8 => ?_)
      · have hF := q_it hF c8
        exact hk _ _ _ _ (lv_sub hl [0, 2, 3] rfl) hP hD hS hF
      · have hF := q_ie hF c8
        refine lv_iload hx hb dX1_waysOfRankAtMost_32 (lv_at hl 5 rfl) ?_
        refine lv_bipush (v := 12) hx hb dX1_waysOfRankAtMost_34 (by decide) ?_
        refine lv_icmp_gt (tgt := 103) hx hb dX1_waysOfRankAtMost_36 (by decide) (fun c9 => ?_) (fun c9 => ?_)
        · have hF := q_it hF c9
          exact hk _ _ _ _ (lv_sub hl [0, 2, 3] rfl) hP hD hS hF
        · have hF := q_ie hF c9
          refine lv_iload hx hb dX1_waysOfRankAtMost_39 (lv_at hl 5 rfl) ?_
          refine lv_istore (lv' := [(6, .int v5), (0, .ref (ad 5)), (1, .int a1), (2, .int a2), (3, .int a3), (4, .int v1), (5, .int v5)]) hx hb dX1_waysOfRankAtMost_41 hl (by decide) rfl (fun ls hl => ?_)
          have L43 : ∀ (k : JS → Option (Int64 × JS)) (n : Nat) (v10 : Int32) (j11 : JS) (H : Heap) (locs : List Loc) (ls : Array Slot), lv_has ls 8 [(0, .ref (ad 5)), (1, .int a1), (2, .int a2), (3, .int a3), (4, .int v1), (5, .int v5), (6, .int v10)] → va_P D vwCl (q_WX cI cJ ad x j11) H → va_D A (q_WX cI cJ ad x j11) → va_S A s.heap H locs → (∀ (j12 : JS) (H : Heap) (locs : List Loc) (ls : Array Slot), lv_has ls 8 [(0, .ref (ad 5)), (1, .int a1), (2, .int a2), (3, .int a3), (4, .int v1), (5, .int v5)] → va_P D vwCl (q_WX cI cJ ad x j12) H → va_D A (q_WX cI cJ ad x j12) → va_S A s.heap H locs → k j12 = some res → W p l e { frames := 1, cells := 0, slots := 0, locals := 24 } s m args below meth c H locs 0 0 Q (F0 m 85 ls [])) → f_X1_waysOfRankAtMost_L43 x a1 a2 a3 v1 v5 k n v10 j11 = some res → W p l e { frames := 1, cells := 0, slots := 0, locals := 24 } s m args below meth c H locs 0 0 Q (F0 m 43 ls []) := by
            intro k n
            induction n with
            | zero => intro v10 j11 H locs ls hl hP hD hS hk hF; exact q_no hF
            | succ n ih =>
              intro v10 j11 H locs ls hl hP hD hS hk hF
              have hF : f_X1_waysOfRankAtMost_L43F x a1 a2 a3 v1 v5 k (f_X1_waysOfRankAtMost_L43 x a1 a2 a3 v1 v5 k n) v10 j11 = some res := hF
              unfold f_X1_waysOfRankAtMost_L43F at hF
              refine lv_iload hx hb dX1_waysOfRankAtMost_43 (lv_at hl 6 rfl) ?_
              refine lv_if_le (tgt := 85) hx hb dX1_waysOfRankAtMost_45 (by decide) (fun c13 => ?_) (fun c13 => ?_)
              · have hF := q_it hF c13
                exact hk _ _ _ _ (lv_sub hl [0, 1, 2, 3, 4, 5] rfl) hP hD hS hF
              · have hF := q_ie hF c13
                refine lv_aload_n hx hb dX1_waysOfRankAtMost_48 rfl (lv_at hl 0 rfl) ?_
                refine qg_X_X1_waysByHowMany hM hP fl_X1_15 dX1_waysOfRankAtMost_49 ?_
                refine lv_iload hx hb dX1_waysOfRankAtMost_52 (lv_at hl 6 rfl) ?_
                refine lv_aload_n hx hb dX1_waysOfRankAtMost_54 rfl (lv_at hl 0 rfl) ?_
                refine qg_X_X1_waysByHowMany hM hP fl_X1_15 dX1_waysOfRankAtMost_55 ?_
                refine lv_iload hx hb dX1_waysOfRankAtMost_58 (lv_at hl 6 rfl) ?_
                obtain ⟨h14, hF⟩ := q_gd_e hF
                refine ql_X_X1_waysByHowMany hM hP h14 dX1_waysOfRankAtMost_60 ?_
                refine lv_iload hx hb dX1_waysOfRankAtMost_61 (lv_at hl 4 rfl) ?_
                refine lv_i2l hx hb dX1_waysOfRankAtMost_63 rfl ?_
                refine lv_lmul hx hb dX1_waysOfRankAtMost_64 ?_
                refine lv_aload_n hx hb dX1_waysOfRankAtMost_65 rfl (lv_at hl 0 rfl) ?_
                refine qg_X_X1_waysByHowMany hM hP fl_X1_15 dX1_waysOfRankAtMost_66 ?_
                refine lv_iload hx hb dX1_waysOfRankAtMost_69 (lv_at hl 6 rfl) ?_
                refine lv_iconst (v := 1) hx hb dX1_waysOfRankAtMost_71 (by decide) ?_
                refine lv_isub hx hb dX1_waysOfRankAtMost_72 ?_
                obtain ⟨h15, hF⟩ := q_gd_e hF
                refine ql_X_X1_waysByHowMany hM hP h15 dX1_waysOfRankAtMost_73 ?_
                refine lv_iload_n hx hb dX1_waysOfRankAtMost_74 rfl (lv_at hl 1 rfl) ?_
                refine lv_i2l hx hb dX1_waysOfRankAtMost_75 rfl ?_
                refine lv_lmul hx hb dX1_waysOfRankAtMost_76 ?_
                refine lv_ladd hx hb dX1_waysOfRankAtMost_77 ?_
                obtain ⟨h16, hF⟩ := q_gd_e hF
                refine qs_X_X1_waysByHowMany hM hP hD hS h16 dX1_waysOfRankAtMost_78 (fun j17 H locs ej17 hP hD hS => ?_)
                have hF := q_let_e hF ej17
                obtain ⟨v18, ev18⟩ : ∃ y : Int32, y = v10 + (-1) := ⟨_, rfl⟩
                have hF := q_let_e hF ev18
                refine lv_iinc (v := v18) (lv' := [(6, .int v18), (0, .ref (ad 5)), (1, .int a1), (2, .int a2), (3, .int a3), (4, .int v1), (5, .int v5)]) hx hb dX1_waysOfRankAtMost_79 hl (k := 6) rfl (by rw [ev18]; rfl) (by decide) rfl (fun ls hl => ?_)
                refine lv_goto (tgt := 43) hx hb dX1_waysOfRankAtMost_82 (by decide) ?_
                exact ih _ _ _ _ _ (lv_sub hl [1, 2, 3, 4, 5, 6, 0] rfl) hP hD hS hk hF
          refine L43 _ _ _ _ _ _ _ (lv_sub hl [1, 2, 3, 4, 5, 6, 0] rfl) hP hD hS ?_ hF
          clear hF
          intro j12 H locs ls hl hP hD hS hF
          refine lv_aload_n hx hb dX1_waysOfRankAtMost_85 rfl (lv_at hl 0 rfl) ?_
          refine qg_X_X1_waysByHowMany hM hP fl_X1_15 dX1_waysOfRankAtMost_86 ?_
          refine lv_iconst (v := 0) hx hb dX1_waysOfRankAtMost_89 (by decide) ?_
          refine lv_dup2_11 hx hb dX1_waysOfRankAtMost_90 rfl rfl ?_
          refine ql_X_X1_waysByHowMany hM hP (by decide) dX1_waysOfRankAtMost_91 ?_
          refine lv_iload hx hb dX1_waysOfRankAtMost_92 (lv_at hl 4 rfl) ?_
          refine lv_i2l hx hb dX1_waysOfRankAtMost_94 rfl ?_
          refine lv_lmul hx hb dX1_waysOfRankAtMost_95 ?_
          refine qs_X_X1_waysByHowMany hM hP hD hS (by decide) dX1_waysOfRankAtMost_96 (fun j19 H locs ej19 hP hD hS => ?_)
          have hF := q_let_e hF ej19
          obtain ⟨v20, ev20⟩ : ∃ y : Int32, y = v5 + 1 := ⟨_, rfl⟩
          have hF := q_let_e hF ev20
          refine lv_iinc (v := v20) (lv' := [(5, .int v20), (0, .ref (ad 5)), (1, .int a1), (2, .int a2), (3, .int a3), (4, .int v1)]) hx hb dX1_waysOfRankAtMost_97 hl (k := 5) rfl (by rw [ev20]; rfl) (by decide) rfl (fun ls hl => ?_)
          refine lv_goto (tgt := 26) hx hb dX1_waysOfRankAtMost_100 (by decide) ?_
          exact ih _ _ _ _ _ (lv_sub hl [1, 2, 3, 4, 5, 0] rfl) hP hD hS hk hF
  refine L26 _ _ _ _ _ _ _ (lv_sub hl [2, 3, 4, 5, 1, 0] rfl) hP hD hS ?_ hF
  clear hF
  intro j7 H locs ls hl hP hD hS hF
  refine lv_lconst (v := 0) hx hb dX1_waysOfRankAtMost_103 (by decide) ?_
  refine lv_lstore (lv' := [(5, .long (0 : Int64)), (0, .ref (ad 5)), (2, .int a2), (3, .int a3)]) hx hb dX1_waysOfRankAtMost_104 hl (by decide) rfl (fun ls hl => ?_)
  refine lv_iload_n hx hb dX1_waysOfRankAtMost_106 rfl (lv_at hl 3 rfl) ?_
  refine lv_iload_n hx hb dX1_waysOfRankAtMost_107 rfl (lv_at hl 2 rfl) ?_
  refine va_mmin hx hb (hM.1.2.2.1.trans hl.1.symm) hM.1.2.2.2.1 (hM.1.2.2.2.2 _ ml_X1_47) (hM.1.2.2.2.2 _ st_J9_min_7cf53) (hM.1.2.2.2.2 _ in_J9) (hM.1.2.2.2.2 _ cw_J9_min_7cf53) (Nat.le_of_ble_eq_true rfl) (Nat.le_of_ble_eq_true rfl) (Nat.zero_le _) (Nat.zero_le _) dX1_waysOfRankAtMost_108 ?_
  refine lv_topi (fun v21 ev21 => ?_)
  have hF := q_let_e hF ev21
  refine lv_istore (lv' := [(7, .int v21), (5, .long (0 : Int64)), (0, .ref (ad 5)), (2, .int a2), (3, .int a3)]) hx hb dX1_waysOfRankAtMost_111 hl (by decide) rfl (fun ls hl => ?_)
  have L113 : ∀ (k : Int64 → JS → Option (Int64 × JS)) (n : Nat) (v22 : Int64) (v23 : Int32) (j25 : JS) (H : Heap) (locs : List Loc) (ls : Array Slot), lv_has ls 8 [(0, .ref (ad 5)), (2, .int a2), (5, .long v22), (7, .int v23)] → va_P D vwCl (q_WX cI cJ ad x j25) H → va_D A (q_WX cI cJ ad x j25) → va_S A s.heap H locs → (∀ (e24 : Int64) (j26 : JS) (H : Heap) (locs : List Loc) (ls : Array Slot), lv_has ls 8 [(5, .long e24)] → va_P D vwCl (q_WX cI cJ ad x j26) H → va_D A (q_WX cI cJ ad x j26) → va_S A s.heap H locs → k e24 j26 = some res → W p l e { frames := 1, cells := 0, slots := 0, locals := 24 } s m args below meth c H locs 0 0 Q (F0 m 144 ls [])) → f_X1_waysOfRankAtMost_L113 x a2 k n v22 v23 j25 = some res → W p l e { frames := 1, cells := 0, slots := 0, locals := 24 } s m args below meth c H locs 0 0 Q (F0 m 113 ls []) := by
    intro k n
    induction n with
    | zero => intro v22 v23 j25 H locs ls hl hP hD hS hk hF; exact q_no hF
    | succ n ih =>
      intro v22 v23 j25 H locs ls hl hP hD hS hk hF
      have hF : f_X1_waysOfRankAtMost_L113F x a2 k (f_X1_waysOfRankAtMost_L113 x a2 k n) v22 v23 j25 = some res := hF
      unfold f_X1_waysOfRankAtMost_L113F at hF
      refine lv_iload hx hb dX1_waysOfRankAtMost_113 (lv_at hl 3 rfl) ?_
      refine lv_iload_n hx hb dX1_waysOfRankAtMost_115 rfl (lv_at hl 1 rfl) ?_
      refine lv_icmp_gt (tgt := 144) hx hb dX1_waysOfRankAtMost_116 (by decide) (fun c27 => ?_) (fun c27 => ?_)
      · have hF := q_it hF c27
        exact hk _ _ _ _ _ (lv_sub hl [2] rfl) hP hD hS hF
      · have hF := q_ie hF c27
        refine lv_iload hx hb dX1_waysOfRankAtMost_119 (lv_at hl 3 rfl) ?_
        refine lv_bipush (v := 12) hx hb dX1_waysOfRankAtMost_121 (by decide) ?_
        refine lv_icmp_gt (tgt := 144) hx hb dX1_waysOfRankAtMost_123 (by decide) (fun c28 => ?_) (fun c28 => ?_)
        · have hF := q_it hF c28
          exact hk _ _ _ _ _ (lv_sub hl [2] rfl) hP hD hS hF
        · have hF := q_ie hF c28
          refine lv_lload hx hb dX1_waysOfRankAtMost_126 (lv_at hl 2 rfl) ?_
          refine lv_aload_n hx hb dX1_waysOfRankAtMost_128 rfl (lv_at hl 0 rfl) ?_
          refine qg_X_X1_waysByHowMany hM hP fl_X1_15 dX1_waysOfRankAtMost_129 ?_
          refine lv_iload hx hb dX1_waysOfRankAtMost_132 (lv_at hl 3 rfl) ?_
          obtain ⟨h29, hF⟩ := q_gd_e hF
          refine ql_X_X1_waysByHowMany hM hP h29 dX1_waysOfRankAtMost_134 ?_
          refine lv_ladd hx hb dX1_waysOfRankAtMost_135 ?_
          refine lv_topl (fun v30 ev30 => ?_)
          have hF := q_let_e hF ev30
          refine lv_lstore (lv' := [(5, .long v30), (0, .ref (ad 5)), (2, .int a2), (7, .int v23)]) hx hb dX1_waysOfRankAtMost_136 hl (by decide) rfl (fun ls hl => ?_)
          obtain ⟨v31, ev31⟩ : ∃ y : Int32, y = v23 + 1 := ⟨_, rfl⟩
          have hF := q_let_e hF ev31
          refine lv_iinc (v := v31) (lv' := [(7, .int v31), (5, .long v30), (0, .ref (ad 5)), (2, .int a2)]) hx hb dX1_waysOfRankAtMost_138 hl (k := 3) rfl (by rw [ev31]; rfl) (by decide) rfl (fun ls hl => ?_)
          refine lv_goto (tgt := 113) hx hb dX1_waysOfRankAtMost_141 (by decide) ?_
          exact ih _ _ _ _ _ _ (lv_sub hl [2, 3, 1, 0] rfl) hP hD hS hk hF
  refine L113 _ _ _ _ _ _ _ _ (lv_sub hl [2, 3, 1, 0] rfl) hP hD hS ?_ hF
  clear hF
  intro e24 j26 H locs ls hl hP hD hS hF
  refine lv_lload hx hb dX1_waysOfRankAtMost_144 (lv_at hl 0 rfl) ?_
  exact hRet (e24, j26) _ _ _ _ hF dX1_waysOfRankAtMost_146 hP hD hS
theorem ky_X1_raised : q_Y yX1_raised cX1_raised 5 (some .long) 1 := ⟨cw_X1_raised, im_X1_raised, se_X1_raised, in_X1, by decide +kernel⟩
set_option maxHeartbeats 4000000 in
set_option maxRecDepth 100000 in
theorem c_X1_raised (l : Launch) (D : va_G) (cI cJ : ClassId) (g : Nat → Nat) (ad : Nat → Nat) (j : JS) (x : IS) (a1 : Int32) (res : Int64) (hF : f_X1_raised x a1 = some res) : q_Ml l yX1_raised cX1_raised 5 { frames := 0, cells := 0, slots := 0, locals := 0 } D cI cJ g (q_WX cI cJ ad x j) [.ref (ad 5), .int a1] (res) (q_WX cI cJ ad x j) := by
  refine q_ofl (res := res) (fun u : Int64 => u) (fun _ : Int64 => (q_WX cI cJ ad x j)) pl_X1 (Nat.le_of_ble_eq_true rfl) ?_
  intro p e s m args below meth c A Q hM hRet ls hl hP hD hS
  have hx := hM.1.1
  have hb := hM.1.2.1
  have hl : lv_has ls 5 [(0, .ref (ad 5)), (1, .int a1)] := hl
  unfold f_X1_raised at hF
  refine lv_lconst (v := 1) hx hb dX1_raised_0 (by decide) ?_
  refine lv_lstore_n (lv' := [(2, .long (1 : Int64)), (0, .ref (ad 5)), (1, .int a1)]) hx hb dX1_raised_1 rfl hl (by decide) rfl (fun ls hl => ?_)
  refine lv_iconst (v := 0) hx hb dX1_raised_2 (by decide) ?_
  refine lv_istore (lv' := [(4, .int (0 : Int32)), (2, .long (1 : Int64)), (0, .ref (ad 5)), (1, .int a1)]) hx hb dX1_raised_3 hl (by decide) rfl (fun ls hl => ?_)
  have L5 : ∀ (k : Int64 → Option (Int64)) (n : Nat) (v1 : Int64) (v2 : Int32) (H : Heap) (locs : List Loc) (ls : Array Slot), lv_has ls 5 [(0, .ref (ad 5)), (1, .int a1), (2, .long v1), (4, .int v2)] → va_P D vwCl (q_WX cI cJ ad x j) H → va_D A (q_WX cI cJ ad x j) → va_S A s.heap H locs → (∀ (e3 : Int64) (H : Heap) (locs : List Loc) (ls : Array Slot), lv_has ls 5 [(2, .long e3)] → va_P D vwCl (q_WX cI cJ ad x j) H → va_D A (q_WX cI cJ ad x j) → va_S A s.heap H locs → k e3 = some res → W p l e { frames := 0, cells := 0, slots := 0, locals := 0 } s m args below meth c H locs 0 0 Q (F0 m 25 ls [])) → f_X1_raised_L5 x a1 k n v1 v2 = some res → W p l e { frames := 0, cells := 0, slots := 0, locals := 0 } s m args below meth c H locs 0 0 Q (F0 m 5 ls []) := by
    intro k n
    induction n with
    | zero => intro v1 v2 H locs ls hl hP hD hS hk hF; exact q_no hF
    | succ n ih =>
      intro v1 v2 H locs ls hl hP hD hS hk hF
      have hF : f_X1_raised_L5F x a1 k (f_X1_raised_L5 x a1 k n) v1 v2 = some res := hF
      unfold f_X1_raised_L5F at hF
      refine lv_iload hx hb dX1_raised_5 (lv_at hl 3 rfl) ?_
      refine lv_iload_n hx hb dX1_raised_7 rfl (lv_at hl 1 rfl) ?_
      refine lv_icmp_ge (tgt := 25) hx hb dX1_raised_8 (by decide) (fun c4 => ?_) (fun c4 => ?_)
      · have hF := q_it hF c4
        exact hk _ _ _ _ (lv_sub hl [2] rfl) hP hD hS hF
      · have hF := q_ie hF c4
        refine lv_lload_n hx hb dX1_raised_11 rfl (lv_at hl 2 rfl) ?_
        refine lv_aload_n hx hb dX1_raised_12 rfl (lv_at hl 0 rfl) ?_
        refine qg_X_X1_together hM hP fl_X1_22 dX1_raised_13 ?_
        refine lv_i2l hx hb dX1_raised_16 rfl ?_
        refine lv_lmul hx hb dX1_raised_17 ?_
        refine lv_topl (fun v5 ev5 => ?_)
        have hF := q_let_e hF ev5
        refine lv_lstore_n (lv' := [(2, .long v5), (0, .ref (ad 5)), (1, .int a1), (4, .int v2)]) hx hb dX1_raised_18 rfl hl (by decide) rfl (fun ls hl => ?_)
        obtain ⟨v6, ev6⟩ : ∃ y : Int32, y = v2 + 1 := ⟨_, rfl⟩
        have hF := q_let_e hF ev6
        refine lv_iinc (v := v6) (lv' := [(4, .int v6), (2, .long v5), (0, .ref (ad 5)), (1, .int a1)]) hx hb dX1_raised_19 hl (k := 3) rfl (by rw [ev6]; rfl) (by decide) rfl (fun ls hl => ?_)
        refine lv_goto (tgt := 5) hx hb dX1_raised_22 (by decide) ?_
        exact ih _ _ _ _ _ (lv_sub hl [2, 3, 1, 0] rfl) hP hD hS hk hF
  refine L5 _ _ _ _ _ _ _ (lv_sub hl [2, 3, 1, 0] rfl) hP hD hS ?_ hF
  clear hF
  intro e3 H locs ls hl hP hD hS hF
  refine lv_lload_n hx hb dX1_raised_25 rfl (lv_at hl 0 rfl) ?_
  exact hRet e3 _ _ _ _ hF dX1_raised_26 hP hD hS
theorem ky_X1_waysOfFloorAtMost : q_Y yX1_waysOfFloorAtMost cX1_waysOfFloorAtMost 9 (some .long) 4 := ⟨cw_X1_waysOfFloorAtMost, im_X1_waysOfFloorAtMost, se_X1_waysOfFloorAtMost, in_X1, by decide +kernel⟩
set_option maxHeartbeats 4000000 in
set_option maxRecDepth 100000 in
theorem c_X1_waysOfFloorAtMost (l : Launch) (D : va_G) (cI cJ : ClassId) (g : Nat → Nat) (ad : Nat → Nat) (x : IS) (j : JS) (a1 : Int32) (a2 : Int32) (a3 : Int32) (a4 : Int32) (res : Int64 × JS) (hF : f_X1_waysOfFloorAtMost x j a1 a2 a3 a4 = some res) : q_Ml l yX1_waysOfFloorAtMost cX1_waysOfFloorAtMost 9 { frames := 2, cells := 0, slots := 0, locals := 51 } D cI cJ g (q_WX cI cJ ad x j) [.ref (ad 5), .int a1, .int a2, .int a3, .int a4] (res.1) (q_WX cI cJ ad x (res.2)) := by
  refine q_ofl (res := res) (fun u : Int64 × JS => u.1) (fun u : Int64 × JS => (q_WX cI cJ ad x (u.2))) pl_X1 (Nat.le_of_ble_eq_true rfl) ?_
  intro p e s m args below meth c A Q hM hRet ls hl hP hD hS
  have hx := hM.1.1
  have hb := hM.1.2.1
  have hl : lv_has ls 9 [(0, .ref (ad 5)), (1, .int a1), (2, .int a2), (3, .int a3), (4, .int a4)] := hl
  unfold f_X1_waysOfFloorAtMost at hF
  refine lv_iload hx hb dX1_waysOfFloorAtMost_0 (lv_at hl 4 rfl) ?_
  refine lv_if_ne (tgt := 15) hx hb dX1_waysOfFloorAtMost_2 (by decide) (fun c1 => ?_) (fun c1 => ?_)
  · have hF := q_ie hF c1
    refine lv_aload_n hx hb dX1_waysOfFloorAtMost_15 rfl (lv_at hl 0 rfl) ?_
    refine lv_iload_n hx hb dX1_waysOfFloorAtMost_16 rfl (lv_at hl 1 rfl) ?_
    refine lv_iload_n hx hb dX1_waysOfFloorAtMost_17 rfl (lv_at hl 2 rfl) ?_
    refine lv_iload_n hx hb dX1_waysOfFloorAtMost_18 rfl (lv_at hl 3 rfl) ?_
    obtain ⟨r2, j3, hC4, hF⟩ := q_b2_e hF
    refine q_calll hM (c_X1_waysOfRankAtMost l D cI cJ g ad _ _ _ _ _ _ hC4) hP hD hS ky_X1_waysOfRankAtMost ml_X1_33 rfl rfl ⟨Nat.le_of_ble_eq_true rfl, Nat.le_of_ble_eq_true rfl⟩ 5 rfl rfl rfl hl.1 rfl (Nat.le_of_ble_eq_true rfl) ⟨Nat.zero_le _, Nat.zero_le _⟩ dX1_waysOfFloorAtMost_19 (fun H locs hP hD hS => ?_)
    refine lv_lstore (lv' := [(5, .long r2), (0, .ref (ad 5)), (1, .int a1), (2, .int a2), (3, .int a3), (4, .int a4)]) hx hb dX1_waysOfFloorAtMost_22 hl (by decide) rfl (fun ls hl => ?_)
    refine lv_iload hx hb dX1_waysOfFloorAtMost_24 (lv_at hl 5 rfl) ?_
    refine lv_iconst (v := 1) hx hb dX1_waysOfFloorAtMost_26 (by decide) ?_
    refine lv_icmp_ne (tgt := 36) hx hb dX1_waysOfFloorAtMost_27 (by decide) (fun c5 => ?_) (fun c5 => ?_)
    · have hF := q_ie hF c5
      refine lv_aload_n hx hb dX1_waysOfFloorAtMost_36 rfl (lv_at hl 1 rfl) ?_
      refine lv_iload_n hx hb dX1_waysOfFloorAtMost_37 rfl (lv_at hl 3 rfl) ?_
      obtain ⟨r6, hC7, hF⟩ := q_b1_e hF
      refine q_calll hM (c_X1_raised l D cI cJ g ad j3 _ _ _ hC7) hP hD hS ky_X1_raised ml_X1_37 rfl rfl ⟨Nat.le_of_ble_eq_true rfl, Nat.le_of_ble_eq_true rfl⟩ 5 rfl rfl rfl hl.1 rfl (Nat.le_of_ble_eq_true rfl) ⟨Nat.zero_le _, Nat.zero_le _⟩ dX1_waysOfFloorAtMost_38 (fun H locs hP hD hS => ?_)
      refine lv_lstore (lv' := [(7, .long r6), (5, .long r2), (0, .ref (ad 5)), (1, .int a1), (2, .int a2), (3, .int a3), (4, .int a4)]) hx hb dX1_waysOfFloorAtMost_41 hl (by decide) rfl (fun ls hl => ?_)
      refine lv_lload hx hb dX1_waysOfFloorAtMost_43 (lv_at hl 0 rfl) ?_
      refine lv_lload hx hb dX1_waysOfFloorAtMost_45 (lv_at hl 0 rfl) ?_
      refine lv_lmul hx hb dX1_waysOfFloorAtMost_47 ?_
      refine lv_lload hx hb dX1_waysOfFloorAtMost_48 (lv_at hl 0 rfl) ?_
      refine lv_lload hx hb dX1_waysOfFloorAtMost_50 (lv_at hl 1 rfl) ?_
      refine lv_lsub hx hb dX1_waysOfFloorAtMost_52 ?_
      refine lv_lload hx hb dX1_waysOfFloorAtMost_53 (lv_at hl 0 rfl) ?_
      refine lv_lload hx hb dX1_waysOfFloorAtMost_55 (lv_at hl 1 rfl) ?_
      refine lv_lsub hx hb dX1_waysOfFloorAtMost_57 ?_
      refine lv_lmul hx hb dX1_waysOfFloorAtMost_58 ?_
      refine lv_lsub hx hb dX1_waysOfFloorAtMost_59 ?_
      exact hRet (((r6 * r6) - ((r6 - r2) * (r6 - r2))), j3) _ _ _ _ hF dX1_waysOfFloorAtMost_60 hP hD hS
    · have hF := q_it hF c5
      refine lv_lload hx hb dX1_waysOfFloorAtMost_30 (lv_at hl 0 rfl) ?_
      refine lv_lload hx hb dX1_waysOfFloorAtMost_32 (lv_at hl 0 rfl) ?_
      refine lv_lmul hx hb dX1_waysOfFloorAtMost_34 ?_
      exact hRet ((r2 * r2), j3) _ _ _ _ hF dX1_waysOfFloorAtMost_35 hP hD hS
  · have hF := q_it hF c1
    refine lv_aload_n hx hb dX1_waysOfFloorAtMost_5 rfl (lv_at hl 0 rfl) ?_
    refine lv_iload_n hx hb dX1_waysOfFloorAtMost_6 rfl (lv_at hl 1 rfl) ?_
    refine lv_iconst (v := 2) hx hb dX1_waysOfFloorAtMost_7 (by decide) ?_
    refine lv_iload_n hx hb dX1_waysOfFloorAtMost_8 rfl (lv_at hl 2 rfl) ?_
    refine lv_imul hx hb dX1_waysOfFloorAtMost_9 ?_
    refine lv_iload_n hx hb dX1_waysOfFloorAtMost_10 rfl (lv_at hl 3 rfl) ?_
    obtain ⟨r8, j9, hC10, hF⟩ := q_b2_e hF
    refine q_calll hM (c_X1_waysOfRankAtMost l D cI cJ g ad _ _ _ _ _ _ hC10) hP hD hS ky_X1_waysOfRankAtMost ml_X1_33 rfl rfl ⟨Nat.le_of_ble_eq_true rfl, Nat.le_of_ble_eq_true rfl⟩ 5 rfl rfl rfl hl.1 rfl (Nat.le_of_ble_eq_true rfl) ⟨Nat.zero_le _, Nat.zero_le _⟩ dX1_waysOfFloorAtMost_11 (fun H locs hP hD hS => ?_)
    exact hRet (r8, j9) _ _ _ _ hF dX1_waysOfFloorAtMost_14 hP hD hS
theorem ky_X1_countFloors : q_Y yX1_countFloors cX1_countFloors 9 none 2 := ⟨cw_X1_countFloors, im_X1_countFloors, se_X1_countFloors, in_X1, by decide +kernel⟩
set_option maxHeartbeats 4000000 in
set_option maxRecDepth 100000 in
theorem c_X1_countFloors (l : Launch) (D : va_G) (cI cJ : ClassId) (g : Nat → Nat) (ad : Nat → Nat) (x : IS) (j : JS) (a2 : Int32) (res : JS) (hF : f_X1_countFloors x j a2 = some res) : q_Mv l yX1_countFloors cX1_countFloors 9 { frames := 3, cells := 0, slots := 0, locals := 79 } D cI cJ g (q_WX cI cJ ad x j) [.ref (ad 5), .ref (ad 14), .int a2] (q_WX cI cJ ad x res) := by
  refine q_ofv (res := res) (fun u : JS => (q_WX cI cJ ad x u)) pl_X1 (Nat.le_of_ble_eq_true rfl) ?_
  intro p e s m args below meth c A Q hM hRet ls hl hP hD hS
  have hx := hM.1.1
  have hb := hM.1.2.1
  have hl : lv_has ls 9 [(0, .ref (ad 5)), (1, .ref (ad 14)), (2, .int a2)] := hl
  unfold f_X1_countFloors at hF
  refine lv_iconst (v := 0) hx hb dX1_countFloors_0 (by decide) ?_
  refine lv_istore_n (lv' := [(3, .int (0 : Int32)), (0, .ref (ad 5)), (1, .ref (ad 14)), (2, .int a2)]) hx hb dX1_countFloors_1 rfl hl (by decide) rfl (fun ls hl => ?_)
  refine lv_lconst (v := 0) hx hb dX1_countFloors_2 (by decide) ?_
  refine lv_lstore (lv' := [(4, .long (0 : Int64)), (3, .int (0 : Int32)), (0, .ref (ad 5)), (1, .ref (ad 14)), (2, .int a2)]) hx hb dX1_countFloors_3 hl (by decide) rfl (fun ls hl => ?_)
  refine lv_iconst (v := 0) hx hb dX1_countFloors_5 (by decide) ?_
  refine lv_istore (lv' := [(6, .int (0 : Int32)), (4, .long (0 : Int64)), (3, .int (0 : Int32)), (0, .ref (ad 5)), (1, .ref (ad 14)), (2, .int a2)]) hx hb dX1_countFloors_6 hl (by decide) rfl (fun ls hl => ?_)
  have L8 : ∀ (k : JS → Option (JS)) (n : Nat) (v1 : Int32) (v2 : Int64) (v3 : Int32) (j4 : JS) (H : Heap) (locs : List Loc) (ls : Array Slot), lv_has ls 9 [(0, .ref (ad 5)), (1, .ref (ad 14)), (2, .int a2), (3, .int v1), (4, .long v2), (6, .int v3)] → va_P D vwCl (q_WX cI cJ ad x j4) H → va_D A (q_WX cI cJ ad x j4) → va_S A s.heap H locs → (∀ (j5 : JS) (H : Heap) (locs : List Loc) (ls : Array Slot), lv_has ls 9 [] → va_P D vwCl (q_WX cI cJ ad x j5) H → va_D A (q_WX cI cJ ad x j5) → va_S A s.heap H locs → k j5 = some res → W p l e { frames := 3, cells := 0, slots := 0, locals := 79 } s m args below meth c H locs 0 0 Q (F0 m 61 ls [])) → f_X1_countFloors_L8 x a2 k n v1 v2 v3 j4 = some res → W p l e { frames := 3, cells := 0, slots := 0, locals := 79 } s m args below meth c H locs 0 0 Q (F0 m 8 ls []) := by
    intro k n
    induction n with
    | zero => intro v1 v2 v3 j4 H locs ls hl hP hD hS hk hF; exact q_no hF
    | succ n ih =>
      intro v1 v2 v3 j4 H locs ls hl hP hD hS hk hF
      have hF : f_X1_countFloors_L8F x a2 k (f_X1_countFloors_L8 x a2 k n) v1 v2 v3 j4 = some res := hF
      unfold f_X1_countFloors_L8F at hF
      refine lv_iload hx hb dX1_countFloors_8 (lv_at hl 5 rfl) ?_
      refine lv_bipush (v := 8) hx hb dX1_countFloors_10 (by decide) ?_
      refine lv_icmp_ge (tgt := 61) hx hb dX1_countFloors_12 (by decide) (fun c6 => ?_) (fun c6 => ?_)
      · have hF := q_it hF c6
        exact hk _ _ _ _ (lv_sub hl [] rfl) hP hD hS hF
      · have hF := q_ie hF c6
        refine lv_iload_n hx hb dX1_countFloors_15 rfl (lv_at hl 3 rfl) ?_
        refine lv_aload_n hx hb dX1_countFloors_16 rfl (lv_at hl 0 rfl) ?_
        refine qg_X_X1_weights hM hP fl_X1_9 dX1_countFloors_17 ?_
        refine lv_iload hx hb dX1_countFloors_20 (lv_at hl 5 rfl) ?_
        obtain ⟨h7, hF⟩ := q_gd_e hF
        refine ql_X_X1_weights hM hP h7 dX1_countFloors_22 ?_
        refine lv_iadd hx hb dX1_countFloors_23 ?_
        refine lv_topi (fun v8 ev8 => ?_)
        have hF := q_let_e hF ev8
        refine lv_istore_n (lv' := [(3, .int v8), (0, .ref (ad 5)), (1, .ref (ad 14)), (2, .int a2), (4, .long v2), (6, .int v3)]) hx hb dX1_countFloors_24 rfl hl (by decide) rfl (fun ls hl => ?_)
        refine lv_aload_n hx hb dX1_countFloors_25 rfl (lv_at hl 1 rfl) ?_
        refine lv_iload_n hx hb dX1_countFloors_26 rfl (lv_at hl 0 rfl) ?_
        refine lv_aload_n hx hb dX1_countFloors_27 rfl (lv_at hl 2 rfl) ?_
        refine lv_iconst (v := 0) hx hb dX1_countFloors_28 (by decide) ?_
        refine ql_X_X3_look hM hP (by decide) dX1_countFloors_29 ?_
        refine lv_aload_n hx hb dX1_countFloors_30 rfl (lv_at hl 2 rfl) ?_
        refine lv_iconst (v := 2) hx hb dX1_countFloors_31 (by decide) ?_
        refine ql_X_X3_look hM hP (by decide) dX1_countFloors_32 ?_
        refine lv_iload_n hx hb dX1_countFloors_33 rfl (lv_at hl 3 rfl) ?_
        obtain ⟨r9, j10, hC11, hF⟩ := q_b2_e hF
        refine q_calll hM (c_X1_waysOfFloorAtMost l D cI cJ g ad _ _ _ _ _ _ _ hC11) hP hD hS ky_X1_waysOfFloorAtMost ml_X1_29 rfl rfl ⟨Nat.le_of_ble_eq_true rfl, Nat.le_of_ble_eq_true rfl⟩ 5 rfl rfl rfl hl.1 rfl (Nat.le_of_ble_eq_true rfl) ⟨Nat.zero_le _, Nat.zero_le _⟩ dX1_countFloors_34 (fun H locs hP hD hS => ?_)
        refine lv_lstore (lv' := [(7, .long r9), (3, .int v8), (0, .ref (ad 5)), (1, .ref (ad 14)), (2, .int a2), (4, .long v2), (6, .int v3)]) hx hb dX1_countFloors_37 hl (by decide) rfl (fun ls hl => ?_)
        refine lv_aload_n hx hb dX1_countFloors_39 rfl (lv_at hl 2 rfl) ?_
        refine qg_X_X1_floorWays hM hP fl_X1_19 dX1_countFloors_40 ?_
        refine lv_iload hx hb dX1_countFloors_43 (lv_at hl 6 rfl) ?_
        refine lv_lload hx hb dX1_countFloors_45 (lv_at hl 0 rfl) ?_
        refine lv_lload hx hb dX1_countFloors_47 (lv_at hl 5 rfl) ?_
        refine lv_lsub hx hb dX1_countFloors_49 ?_
        obtain ⟨h12, hF⟩ := q_gd_e hF
        refine qs_X_X1_floorWays hM hP hD hS h12 dX1_countFloors_50 (fun j13 H locs ej13 hP hD hS => ?_)
        have hF := q_let_e hF ej13
        refine lv_lload hx hb dX1_countFloors_51 (lv_at hl 0 rfl) ?_
        refine lv_lstore (lv' := [(4, .long r9), (7, .long r9), (3, .int v8), (0, .ref (ad 5)), (1, .ref (ad 14)), (2, .int a2), (6, .int v3)]) hx hb dX1_countFloors_53 hl (by decide) rfl (fun ls hl => ?_)
        obtain ⟨v14, ev14⟩ : ∃ y : Int32, y = v3 + 1 := ⟨_, rfl⟩
        have hF := q_let_e hF ev14
        refine lv_iinc (v := v14) (lv' := [(6, .int v14), (4, .long r9), (7, .long r9), (3, .int v8), (0, .ref (ad 5)), (1, .ref (ad 14)), (2, .int a2)]) hx hb dX1_countFloors_55 hl (k := 6) rfl (by rw [ev14]; rfl) (by decide) rfl (fun ls hl => ?_)
        refine lv_goto (tgt := 8) hx hb dX1_countFloors_58 (by decide) ?_
        exact ih _ _ _ _ _ _ _ (lv_sub hl [4, 5, 6, 3, 1, 0] rfl) hP hD hS hk hF
  refine L8 _ _ _ _ _ _ _ _ _ (lv_sub hl [3, 4, 5, 2, 1, 0] rfl) hP hD hS ?_ hF
  clear hF
  intro j5 H locs ls hl hP hD hS hF
  exact hRet _ _ _ _ _ hF dX1_countFloors_61 hP hD hS
theorem ky_X1_allWays : q_Y yX1_allWays cX1_allWays 2 (some .long) 1 := ⟨cw_X1_allWays, im_X1_allWays, se_X1_allWays, in_X1, by decide +kernel⟩
set_option maxHeartbeats 4000000 in
set_option maxRecDepth 100000 in
theorem c_X1_allWays (l : Launch) (D : va_G) (cI cJ : ClassId) (g : Nat → Nat) (ad : Nat → Nat) (j : JS) (x : IS) (a1 : Int32) (res : Int64) (hF : f_X1_allWays x a1 = some res) : q_Ml l yX1_allWays cX1_allWays 2 { frames := 1, cells := 0, slots := 0, locals := 24 } D cI cJ g (q_WX cI cJ ad x j) [.ref (ad 5), .int a1] (res) (q_WX cI cJ ad x j) := by
  refine q_ofl (res := res) (fun u : Int64 => u) (fun _ : Int64 => (q_WX cI cJ ad x j)) pl_X1 (Nat.le_of_ble_eq_true rfl) ?_
  intro p e s m args below meth c A Q hM hRet ls hl hP hD hS
  have hx := hM.1.1
  have hb := hM.1.2.1
  have hl : lv_has ls 2 [(0, .ref (ad 5)), (1, .int a1)] := hl
  unfold f_X1_allWays at hF
  refine lv_aload_n hx hb dX1_allWays_0 rfl (lv_at hl 0 rfl) ?_
  refine lv_iconst (v := 2) hx hb dX1_allWays_1 (by decide) ?_
  refine lv_iload_n hx hb dX1_allWays_2 rfl (lv_at hl 1 rfl) ?_
  refine lv_imul hx hb dX1_allWays_3 ?_
  refine lv_iconst (v := 1) hx hb dX1_allWays_4 (by decide) ?_
  refine lv_iadd hx hb dX1_allWays_5 ?_
  obtain ⟨r1, hC2, hF⟩ := q_b1_e hF
  refine q_calll hM (c_X1_raised l D cI cJ g ad j _ _ _ hC2) hP hD hS ky_X1_raised ml_X1_37 rfl rfl ⟨Nat.le_of_ble_eq_true rfl, Nat.le_of_ble_eq_true rfl⟩ 5 rfl rfl rfl hl.1 rfl (Nat.le_of_ble_eq_true rfl) ⟨Nat.zero_le _, Nat.zero_le _⟩ dX1_allWays_6 (fun H locs hP hD hS => ?_)
  exact hRet r1 _ _ _ _ hF dX1_allWays_9 hP hD hS
theorem ky_X1_alarmWays : q_Y yX1_alarmWays cX1_alarmWays 7 (some .long) 2 := ⟨cw_X1_alarmWays, im_X1_alarmWays, se_X1_alarmWays, in_X1, by decide +kernel⟩
set_option maxHeartbeats 4000000 in
set_option maxRecDepth 100000 in
theorem c_X1_alarmWays (l : Launch) (D : va_G) (cI cJ : ClassId) (g : Nat → Nat) (ad : Nat → Nat) (x : IS) (j : JS) (a1 : Int32) (a2 : Int32) (res : Int64) (hF : f_X1_alarmWays x j a1 a2 = some res) : q_Ml l yX1_alarmWays cX1_alarmWays 7 { frames := 0, cells := 0, slots := 0, locals := 0 } D cI cJ g (q_WX cI cJ ad x j) [.ref (ad 5), .int a1, .int a2] (res) (q_WX cI cJ ad x j) := by
  refine q_ofl (res := res) (fun u : Int64 => u) (fun _ : Int64 => (q_WX cI cJ ad x j)) pl_X1 (Nat.le_of_ble_eq_true rfl) ?_
  intro p e s m args below meth c A Q hM hRet ls hl hP hD hS
  have hx := hM.1.1
  have hb := hM.1.2.1
  have hl : lv_has ls 7 [(0, .ref (ad 5)), (1, .int a1), (2, .int a2)] := hl
  unfold f_X1_alarmWays at hF
  refine lv_lconst (v := 0) hx hb dX1_alarmWays_0 (by decide) ?_
  refine lv_lstore_n (lv' := [(3, .long (0 : Int64)), (0, .ref (ad 5)), (1, .int a1), (2, .int a2)]) hx hb dX1_alarmWays_1 rfl hl (by decide) rfl (fun ls hl => ?_)
  refine lv_iconst (v := 0) hx hb dX1_alarmWays_2 (by decide) ?_
  refine lv_istore (lv' := [(5, .int (0 : Int32)), (3, .long (0 : Int64)), (0, .ref (ad 5)), (1, .int a1), (2, .int a2)]) hx hb dX1_alarmWays_3 hl (by decide) rfl (fun ls hl => ?_)
  have L5 : ∀ (k : Int64 → Option (Int64)) (n : Nat) (v1 : Int64) (v2 : Int32) (H : Heap) (locs : List Loc) (ls : Array Slot), lv_has ls 7 [(0, .ref (ad 5)), (1, .int a1), (2, .int a2), (3, .long v1), (5, .int v2)] → va_P D vwCl (q_WX cI cJ ad x j) H → va_D A (q_WX cI cJ ad x j) → va_S A s.heap H locs → (∀ (e3 : Int64) (H : Heap) (locs : List Loc) (ls : Array Slot), lv_has ls 7 [(3, .long e3)] → va_P D vwCl (q_WX cI cJ ad x j) H → va_D A (q_WX cI cJ ad x j) → va_S A s.heap H locs → k e3 = some res → W p l e { frames := 0, cells := 0, slots := 0, locals := 0 } s m args below meth c H locs 0 0 Q (F0 m 64 ls [])) → f_X1_alarmWays_L5 x j a1 a2 k n v1 v2 = some res → W p l e { frames := 0, cells := 0, slots := 0, locals := 0 } s m args below meth c H locs 0 0 Q (F0 m 5 ls []) := by
    intro k n
    induction n with
    | zero => intro v1 v2 H locs ls hl hP hD hS hk hF; exact q_no hF
    | succ n ih =>
      intro v1 v2 H locs ls hl hP hD hS hk hF
      have hF : f_X1_alarmWays_L5F x j a1 a2 k (f_X1_alarmWays_L5 x j a1 a2 k n) v1 v2 = some res := hF
      unfold f_X1_alarmWays_L5F at hF
      refine lv_iload hx hb dX1_alarmWays_5 (lv_at hl 4 rfl) ?_
      refine lv_bipush (v := 8) hx hb dX1_alarmWays_7 (by decide) ?_
      refine lv_icmp_ge (tgt := 64) hx hb dX1_alarmWays_9 (by decide) (fun c4 => ?_) (fun c4 => ?_)
      · have hF := q_it hF c4
        exact hk _ _ _ _ (lv_sub hl [3] rfl) hP hD hS hF
      · have hF := q_ie hF c4
        refine lv_iconst (v := 0) hx hb dX1_alarmWays_12 (by decide) ?_
        refine lv_istore (lv' := [(6, .int (0 : Int32)), (0, .ref (ad 5)), (1, .int a1), (2, .int a2), (3, .long v1), (5, .int v2)]) hx hb dX1_alarmWays_13 hl (by decide) rfl (fun ls hl => ?_)
        have L15 : ∀ (k : Int64 → Option (Int64)) (n : Nat) (v5 : Int64) (v6 : Int32) (H : Heap) (locs : List Loc) (ls : Array Slot), lv_has ls 7 [(0, .ref (ad 5)), (1, .int a1), (2, .int a2), (3, .long v5), (5, .int v2), (6, .int v6)] → va_P D vwCl (q_WX cI cJ ad x j) H → va_D A (q_WX cI cJ ad x j) → va_S A s.heap H locs → (∀ (e7 : Int64) (H : Heap) (locs : List Loc) (ls : Array Slot), lv_has ls 7 [(0, .ref (ad 5)), (1, .int a1), (2, .int a2), (3, .long e7), (5, .int v2)] → va_P D vwCl (q_WX cI cJ ad x j) H → va_D A (q_WX cI cJ ad x j) → va_S A s.heap H locs → k e7 = some res → W p l e { frames := 0, cells := 0, slots := 0, locals := 0 } s m args below meth c H locs 0 0 Q (F0 m 58 ls [])) → f_X1_alarmWays_L15 x j a1 a2 v2 k n v5 v6 = some res → W p l e { frames := 0, cells := 0, slots := 0, locals := 0 } s m args below meth c H locs 0 0 Q (F0 m 15 ls []) := by
          intro k n
          induction n with
          | zero => intro v5 v6 H locs ls hl hP hD hS hk hF; exact q_no hF
          | succ n ih =>
            intro v5 v6 H locs ls hl hP hD hS hk hF
            have hF : f_X1_alarmWays_L15F x j a1 a2 v2 k (f_X1_alarmWays_L15 x j a1 a2 v2 k n) v5 v6 = some res := hF
            unfold f_X1_alarmWays_L15F at hF
            refine lv_iload hx hb dX1_alarmWays_15 (lv_at hl 5 rfl) ?_
            refine lv_bipush (v := 8) hx hb dX1_alarmWays_17 (by decide) ?_
            refine lv_icmp_ge (tgt := 58) hx hb dX1_alarmWays_19 (by decide) (fun c8 => ?_) (fun c8 => ?_)
            · have hF := q_it hF c8
              exact hk _ _ _ _ (lv_sub hl [0, 1, 2, 3, 4] rfl) hP hD hS hF
            · have hF := q_ie hF c8
              refine lv_iload_n hx hb dX1_alarmWays_22 rfl (lv_at hl 1 rfl) ?_
              refine lv_iload hx hb dX1_alarmWays_23 (lv_at hl 5 rfl) ?_
              refine lv_imul hx hb dX1_alarmWays_25 ?_
              refine lv_iload_n hx hb dX1_alarmWays_26 rfl (lv_at hl 2 rfl) ?_
              refine lv_iload hx hb dX1_alarmWays_27 (lv_at hl 4 rfl) ?_
              refine lv_imul hx hb dX1_alarmWays_29 ?_
              refine lv_icmp_ge (tgt := 58) hx hb dX1_alarmWays_30 (by decide) (fun c9 => ?_) (fun c9 => ?_)
              · have hF := q_it hF c9
                exact hk _ _ _ _ (lv_sub hl [0, 1, 2, 3, 4] rfl) hP hD hS hF
              · have hF := q_ie hF c9
                refine lv_lload_n hx hb dX1_alarmWays_33 rfl (lv_at hl 3 rfl) ?_
                refine lv_aload_n hx hb dX1_alarmWays_34 rfl (lv_at hl 0 rfl) ?_
                refine qg_X_X1_weights hM hP fl_X1_9 dX1_alarmWays_35 ?_
                refine lv_iload hx hb dX1_alarmWays_38 (lv_at hl 4 rfl) ?_
                obtain ⟨h10, hF⟩ := q_gd_e hF
                refine ql_X_X1_weights hM hP h10 dX1_alarmWays_40 ?_
                refine lv_i2l hx hb dX1_alarmWays_41 rfl ?_
                refine lv_aload_n hx hb dX1_alarmWays_42 rfl (lv_at hl 0 rfl) ?_
                refine qg_X_X1_floorWays hM hP fl_X1_19 dX1_alarmWays_43 ?_
                refine lv_iload hx hb dX1_alarmWays_46 (lv_at hl 5 rfl) ?_
                obtain ⟨h11, hF⟩ := q_gd_e hF
                refine ql_X_X1_floorWays hM hP h11 dX1_alarmWays_48 ?_
                refine lv_lmul hx hb dX1_alarmWays_49 ?_
                refine lv_ladd hx hb dX1_alarmWays_50 ?_
                refine lv_topl (fun v12 ev12 => ?_)
                have hF := q_let_e hF ev12
                refine lv_lstore_n (lv' := [(3, .long v12), (0, .ref (ad 5)), (1, .int a1), (2, .int a2), (5, .int v2), (6, .int v6)]) hx hb dX1_alarmWays_51 rfl hl (by decide) rfl (fun ls hl => ?_)
                obtain ⟨v13, ev13⟩ : ∃ y : Int32, y = v6 + 1 := ⟨_, rfl⟩
                have hF := q_let_e hF ev13
                refine lv_iinc (v := v13) (lv' := [(6, .int v13), (3, .long v12), (0, .ref (ad 5)), (1, .int a1), (2, .int a2), (5, .int v2)]) hx hb dX1_alarmWays_52 hl (k := 5) rfl (by rw [ev13]; rfl) (by decide) rfl (fun ls hl => ?_)
                refine lv_goto (tgt := 15) hx hb dX1_alarmWays_55 (by decide) ?_
                exact ih _ _ _ _ _ (lv_sub hl [2, 3, 4, 1, 5, 0] rfl) hP hD hS hk hF
        refine L15 _ _ _ _ _ _ _ (lv_sub hl [1, 2, 3, 4, 5, 0] rfl) hP hD hS ?_ hF
        clear hF
        intro e7 H locs ls hl hP hD hS hF
        obtain ⟨v14, ev14⟩ : ∃ y : Int32, y = v2 + 1 := ⟨_, rfl⟩
        have hF := q_let_e hF ev14
        refine lv_iinc (v := v14) (lv' := [(5, .int v14), (0, .ref (ad 5)), (1, .int a1), (2, .int a2), (3, .long e7)]) hx hb dX1_alarmWays_58 hl (k := 4) rfl (by rw [ev14]; rfl) (by decide) rfl (fun ls hl => ?_)
        refine lv_goto (tgt := 5) hx hb dX1_alarmWays_61 (by decide) ?_
        exact ih _ _ _ _ _ (lv_sub hl [1, 2, 3, 4, 0] rfl) hP hD hS hk hF
  refine L5 _ _ _ _ _ _ _ (lv_sub hl [2, 3, 4, 1, 0] rfl) hP hD hS ?_ hF
  clear hF
  intro e3 H locs ls hl hP hD hS hF
  refine lv_lload_n hx hb dX1_alarmWays_64 rfl (lv_at hl 0 rfl) ?_
  exact hRet e3 _ _ _ _ hF dX1_alarmWays_65 hP hD hS
theorem ky_X2_forgetOldest : q_Y yX2_forgetOldest cX2_forgetOldest 1 none 0 := ⟨cw_X2_forgetOldest, im_X2_forgetOldest, se_X2_forgetOldest, in_X2, by decide +kernel⟩
set_option maxHeartbeats 4000000 in
set_option maxRecDepth 100000 in
theorem c_X2_forgetOldest (l : Launch) (D : va_G) (cI cJ : ClassId) (g : Nat → Nat) (ad : Nat → Nat) (j : JS) (x : IS) (res : IS) (hF : f_X2_forgetOldest x = some res) : q_Mv l yX2_forgetOldest cX2_forgetOldest 1 { frames := 1, cells := 0, slots := 0, locals := 26 } D cI cJ g (q_WX cI cJ ad x j) [.ref (ad 6)] (q_WX cI cJ ad res j) := by
  refine q_ofv (res := res) (fun u : IS => (q_WX cI cJ ad u j)) pl_X2 (Nat.le_of_ble_eq_true rfl) ?_
  intro p e s m args below meth c A Q hM hRet ls hl hP hD hS
  have hx := hM.1.1
  have hb := hM.1.2.1
  have hl : lv_has ls 1 [(0, .ref (ad 6))] := hl
  unfold f_X2_forgetOldest at hF
  refine lv_aload_n hx hb dX2_forgetOldest_0 rfl (lv_at hl 0 rfl) ?_
  refine lv_iconst (v := 5) hx hb dX2_forgetOldest_1 (by decide) ?_
  refine qp_X_X2_size hM hP hD hS fl_X2_21 dX2_forgetOldest_2 (fun x1 H locs ex1 hP hD hS => ?_)
  have hF := q_let_e hF ex1
  refine lv_aload_n hx hb dX2_forgetOldest_5 rfl (lv_at hl 0 rfl) ?_
  refine qg_X_X2_kinds hM hP fl_X2_9 dX2_forgetOldest_6 ?_
  refine lv_iconst (v := 1) hx hb dX2_forgetOldest_9 (by decide) ?_
  refine lv_aload_n hx hb dX2_forgetOldest_10 rfl (lv_at hl 0 rfl) ?_
  refine qg_X_X2_kinds hM hP fl_X2_9 dX2_forgetOldest_11 ?_
  refine lv_iconst (v := 0) hx hb dX2_forgetOldest_14 (by decide) ?_
  refine lv_aload_n hx hb dX2_forgetOldest_15 rfl (lv_at hl 0 rfl) ?_
  refine qg_X_X2_size hM hP fl_X2_21 dX2_forgetOldest_16 ?_
  obtain ⟨h3, hF⟩ := q_gd_e hF
  refine qc_X2_kinds_X2_kinds hM hP hD hS ml_X2_28 h3 hl.1 ⟨Nat.le_of_ble_eq_true rfl, Nat.le_of_ble_eq_true rfl⟩ dX2_forgetOldest_19 (fun x2 H locs ex2 hP hD hS => ?_)
  have hF := q_let_e hF ex2
  refine lv_aload_n hx hb dX2_forgetOldest_22 rfl (lv_at hl 0 rfl) ?_
  refine qg_X_X2_places hM hP fl_X2_15 dX2_forgetOldest_23 ?_
  refine lv_iconst (v := 1) hx hb dX2_forgetOldest_26 (by decide) ?_
  refine lv_aload_n hx hb dX2_forgetOldest_27 rfl (lv_at hl 0 rfl) ?_
  refine qg_X_X2_places hM hP fl_X2_15 dX2_forgetOldest_28 ?_
  refine lv_iconst (v := 0) hx hb dX2_forgetOldest_31 (by decide) ?_
  refine lv_aload_n hx hb dX2_forgetOldest_32 rfl (lv_at hl 0 rfl) ?_
  refine qg_X_X2_size hM hP fl_X2_21 dX2_forgetOldest_33 ?_
  obtain ⟨h5, hF⟩ := q_gd_e hF
  refine qc_X2_places_X2_places hM hP hD hS ml_X2_28 h5 hl.1 ⟨Nat.le_of_ble_eq_true rfl, Nat.le_of_ble_eq_true rfl⟩ dX2_forgetOldest_36 (fun x4 H locs ex4 hP hD hS => ?_)
  have hF := q_let_e hF ex4
  refine lv_aload_n hx hb dX2_forgetOldest_39 rfl (lv_at hl 0 rfl) ?_
  refine qg_X_X2_values hM hP fl_X2_18 dX2_forgetOldest_40 ?_
  refine lv_iconst (v := 1) hx hb dX2_forgetOldest_43 (by decide) ?_
  refine lv_aload_n hx hb dX2_forgetOldest_44 rfl (lv_at hl 0 rfl) ?_
  refine qg_X_X2_values hM hP fl_X2_18 dX2_forgetOldest_45 ?_
  refine lv_iconst (v := 0) hx hb dX2_forgetOldest_48 (by decide) ?_
  refine lv_aload_n hx hb dX2_forgetOldest_49 rfl (lv_at hl 0 rfl) ?_
  refine qg_X_X2_size hM hP fl_X2_21 dX2_forgetOldest_50 ?_
  obtain ⟨h7, hF⟩ := q_gd_e hF
  refine qc_X2_values_X2_values hM hP hD hS ml_X2_28 h7 hl.1 ⟨Nat.le_of_ble_eq_true rfl, Nat.le_of_ble_eq_true rfl⟩ dX2_forgetOldest_53 (fun x6 H locs ex6 hP hD hS => ?_)
  have hF := q_let_e hF ex6
  exact hRet _ _ _ _ _ hF dX2_forgetOldest_56 hP hD hS
end
