section
theorem ky_X6_factor : q_Y yX6_factor cX6_factor 6 (some .int) 2 := ⟨cw_X6_factor, im_X6_factor, se_X6_factor, in_X6, by decide +kernel⟩
set_option maxHeartbeats 4000000 in
set_option maxRecDepth 100000 in
theorem c_X6_factor (l : Launch) (D : va_G) (cI cJ : ClassId) (g : Nat → Nat) (ad : Nat → Nat) (x : IS) (j : JS) (a1 : Int32) (a2 : Int32) (res : Int32 × JS) (hF : f_X6_factor x j a1 a2 = some res) : q_Mi l yX6_factor cX6_factor 6 .int { frames := 4, cells := 0, slots := 0, locals := 107 } D cI cJ g (q_WX cI cJ ad x j) [.ref (ad 0), .int a1, .int a2] (res.1) (q_WX cI cJ ad x (res.2)) := by
  refine q_ofi (res := res) (fun u : Int32 × JS => u.1) (fun u : Int32 × JS => (q_WX cI cJ ad x (u.2))) pl_X6 (Nat.le_of_ble_eq_true rfl) ?_
  intro p e s m args below meth c A Q hM hRet ls hl hP hD hS
  have hx := hM.1.1
  have hb := hM.1.2.1
  have hl : lv_has ls 6 [(0, .ref (ad 0)), (1, .int a1), (2, .int a2)] := hl
  unfold f_X6_factor at hF
  refine lv_iload_n hx hb dX6_factor_0 rfl (lv_at hl 1 rfl) ?_
  refine lv_iconst (v := 1) hx hb dX6_factor_1 (by decide) ?_
  refine lv_icmp_lt (tgt := 22) hx hb dX6_factor_2 (by decide) (fun c1 => ?_) (fun c1 => ?_)
  · have hF := q_it hF c1
    refine lv_iconst (v := -1) hx hb dX6_factor_22 (by decide) ?_
    exact hRet ((-1 : Int32), j) _ _ _ _ hF rfl dX6_factor_23 hP hD hS
  · have hF := q_ie hF c1
    refine lv_iload_n hx hb dX6_factor_5 rfl (lv_at hl 1 rfl) ?_
    refine lv_ldc hx hb hM.1.2.2.2.1 (hM.1.2.2.2.2 _ ki_X6_204) dX6_factor_6 ?_
    refine lv_icmp_gt (tgt := 22) hx hb dX6_factor_8 (by decide) (fun c2 => ?_) (fun c2 => ?_)
    · have hF := q_it hF c2
      refine lv_iconst (v := -1) hx hb dX6_factor_22 (by decide) ?_
      exact hRet ((-1 : Int32), j) _ _ _ _ hF rfl dX6_factor_23 hP hD hS
    · have hF := q_ie hF c2
      refine lv_iload_n hx hb dX6_factor_11 rfl (lv_at hl 2 rfl) ?_
      refine lv_iconst (v := 1) hx hb dX6_factor_12 (by decide) ?_
      refine lv_icmp_lt (tgt := 22) hx hb dX6_factor_13 (by decide) (fun c3 => ?_) (fun c3 => ?_)
      · have hF := q_it hF c3
        refine lv_iconst (v := -1) hx hb dX6_factor_22 (by decide) ?_
        exact hRet ((-1 : Int32), j) _ _ _ _ hF rfl dX6_factor_23 hP hD hS
      · have hF := q_ie hF c3
        refine lv_iload_n hx hb dX6_factor_16 rfl (lv_at hl 2 rfl) ?_
        refine lv_ldc hx hb hM.1.2.2.2.1 (hM.1.2.2.2.2 _ ki_X6_204) dX6_factor_17 ?_
        refine lv_icmp_le (tgt := 24) hx hb dX6_factor_19 (by decide) (fun c4 => ?_) (fun c4 => ?_)
        · have hF := q_it hF c4
          refine lv_aload_n hx hb dX6_factor_24 rfl (lv_at hl 0 rfl) ?_
          refine qg_X_X6_dice hM hP fl_X6_40 dX6_factor_25 ?_
          refine lv_aload_n hx hb dX6_factor_28 rfl (lv_at hl 0 rfl) ?_
          refine qg_X_X6_row hM hP fl_X6_26 dX6_factor_29 ?_
          refine qg_X_X3_look hM hP fl_X6_119 dX6_factor_32 ?_
          refine lv_aload_n hx hb dX6_factor_35 rfl (lv_at hl 0 rfl) ?_
          refine qg_X_X6_row hM hP fl_X6_26 dX6_factor_36 ?_
          refine qg_X_X3_mode hM hP fl_X6_125 dX6_factor_39 ?_
          obtain ⟨j5, hC6, hF⟩ := q_b1_e hF
          refine q_callv hM (c_X1_countFloors l D cI cJ g ad _ _ _ _ hC6) hP hD hS ky_X1_countFloors ml_X6_188 rfl rfl ⟨Nat.le_of_ble_eq_true rfl, Nat.le_of_ble_eq_true rfl⟩ 5 rfl rfl rfl hl.1 rfl (Nat.le_of_ble_eq_true rfl) ⟨Nat.zero_le _, Nat.zero_le _⟩ dX6_factor_42 (fun H locs hP hD hS => ?_)
          refine lv_aload_n hx hb dX6_factor_45 rfl (lv_at hl 0 rfl) ?_
          refine qg_X_X6_dice hM hP fl_X6_40 dX6_factor_46 ?_
          refine lv_aload_n hx hb dX6_factor_49 rfl (lv_at hl 0 rfl) ?_
          refine qg_X_X6_row hM hP fl_X6_26 dX6_factor_50 ?_
          refine qg_X_X3_look hM hP fl_X6_119 dX6_factor_53 ?_
          refine lv_iconst (v := 0) hx hb dX6_factor_56 (by decide) ?_
          refine ql_X_X3_look hM hP (by decide) dX6_factor_57 ?_
          obtain ⟨r7, hC8, hF⟩ := q_b1_e hF
          refine q_calll hM (c_X1_allWays l D cI cJ g ad j5 _ _ _ hC8) hP hD hS ky_X1_allWays ml_X6_196 rfl rfl ⟨Nat.le_of_ble_eq_true rfl, Nat.le_of_ble_eq_true rfl⟩ 5 rfl rfl rfl hl.1 rfl (Nat.le_of_ble_eq_true rfl) ⟨Nat.zero_le _, Nat.zero_le _⟩ dX6_factor_58 (fun H locs hP hD hS => ?_)
          refine lv_lstore_n (lv' := [(3, .long r7), (0, .ref (ad 0)), (1, .int a1), (2, .int a2)]) hx hb dX6_factor_61 rfl hl (by decide) rfl (fun ls hl => ?_)
          refine lv_iconst (v := 1) hx hb dX6_factor_62 (by decide) ?_
          refine lv_istore (lv' := [(5, .int (1 : Int32)), (3, .long r7), (0, .ref (ad 0)), (1, .int a1), (2, .int a2)]) hx hb dX6_factor_63 hl (by decide) rfl (fun ls hl => ?_)
          have L65 : ∀ (k : JS → Option (Int32 × JS)) (n : Nat) (v9 : Int32) (j10 : JS) (H : Heap) (locs : List Loc) (ls : Array Slot), lv_has ls 6 [(0, .ref (ad 0)), (1, .int a1), (2, .int a2), (3, .long r7), (5, .int v9)] → va_P D vwCl (q_WX cI cJ ad x j10) H → va_D A (q_WX cI cJ ad x j10) → va_S A s.heap H locs → (∀ (j11 : JS) (H : Heap) (locs : List Loc) (ls : Array Slot), lv_has ls 6 [] → va_P D vwCl (q_WX cI cJ ad x j11) H → va_D A (q_WX cI cJ ad x j11) → va_S A s.heap H locs → k j11 = some res → W p l e { frames := 4, cells := 0, slots := 0, locals := 107 } s m args below meth c H locs 0 0 Q (F0 m 110 ls [])) → f_X6_factor_L65 x a1 a2 r7 k n v9 j10 = some res → W p l e { frames := 4, cells := 0, slots := 0, locals := 107 } s m args below meth c H locs 0 0 Q (F0 m 65 ls []) := by
            intro k n
            induction n with
            | zero => intro v9 j10 H locs ls hl hP hD hS hk hF; exact q_no hF
            | succ n ih =>
              intro v9 j10 H locs ls hl hP hD hS hk hF
              have hF : f_X6_factor_L65F x a1 a2 r7 k (f_X6_factor_L65 x a1 a2 r7 k n) v9 j10 = some res := hF
              unfold f_X6_factor_L65F at hF
              refine lv_iload hx hb dX6_factor_65 (lv_at hl 4 rfl) ?_
              refine lv_bipush (v := 40) hx hb dX6_factor_67 (by decide) ?_
              refine lv_icmp_gt (tgt := 110) hx hb dX6_factor_69 (by decide) (fun c12 => ?_) (fun c12 => ?_)
              · have hF := q_it hF c12
                exact hk _ _ _ _ (lv_sub hl [] rfl) hP hD hS hF
              · have hF := q_ie hF c12
                refine lv_aload_n hx hb dX6_factor_72 rfl (lv_at hl 0 rfl) ?_
                refine qg_X_X6_dice hM hP fl_X6_40 dX6_factor_73 ?_
                refine lv_iload hx hb dX6_factor_76 (lv_at hl 4 rfl) ?_
                refine lv_aload_n hx hb dX6_factor_78 rfl (lv_at hl 0 rfl) ?_
                refine qg_X_X6_row hM hP fl_X6_26 dX6_factor_79 ?_
                refine qg_X_X3_look hM hP fl_X6_119 dX6_factor_82 ?_
                refine lv_iconst (v := 4) hx hb dX6_factor_85 (by decide) ?_
                refine ql_X_X3_look hM hP (by decide) dX6_factor_86 ?_
                obtain ⟨r13, hC14, hF⟩ := q_b1_e hF
                refine q_calll hM (c_X1_alarmWays l D cI cJ g ad _ _ _ _ _ hC14) hP hD hS ky_X1_alarmWays ml_X6_192 rfl rfl ⟨Nat.le_of_ble_eq_true rfl, Nat.le_of_ble_eq_true rfl⟩ 5 rfl rfl rfl hl.1 rfl (Nat.le_of_ble_eq_true rfl) ⟨Nat.zero_le _, Nat.zero_le _⟩ dX6_factor_87 (fun H locs hP hD hS => ?_)
                refine lv_iload_n hx hb dX6_factor_90 rfl (lv_at hl 2 rfl) ?_
                refine lv_i2l hx hb dX6_factor_91 rfl ?_
                refine lv_lload_n hx hb dX6_factor_92 rfl (lv_at hl 3 rfl) ?_
                refine lv_iload_n hx hb dX6_factor_93 rfl (lv_at hl 1 rfl) ?_
                refine lv_i2l hx hb dX6_factor_94 rfl ?_
                obtain ⟨r15, hC16, hF⟩ := q_b1_e hF
                refine q_calliS hM (c_X6_productIsNoMore l D cI cJ g (q_WX cI cJ ad x j10) _ _ _ _ _ hC16) hP hD hS ky_X6_productIsNoMore ml_X6_205 rfl rfl ⟨Nat.le_of_ble_eq_true rfl, Nat.le_of_ble_eq_true rfl⟩ rfl hl.1 rfl (Nat.le_of_ble_eq_true rfl) ⟨Nat.zero_le _, Nat.zero_le _⟩ dX6_factor_95 (fun H locs hz17 hP hD hS => ?_)
                refine lv_if_eq (tgt := 104) hx hb dX6_factor_98 (by decide) (fun c18 => ?_) (fun c18 => ?_)
                · have hF := q_it hF c18
                  obtain ⟨v19, ev19⟩ : ∃ y : Int32, y = v9 + 1 := ⟨_, rfl⟩
                  have hF := q_let_e hF ev19
                  refine lv_iinc (v := v19) (lv' := [(5, .int v19), (0, .ref (ad 0)), (1, .int a1), (2, .int a2), (3, .long r7)]) hx hb dX6_factor_104 hl (k := 4) rfl (by rw [ev19]; rfl) (by decide) rfl (fun ls hl => ?_)
                  refine lv_goto (tgt := 65) hx hb dX6_factor_107 (by decide) ?_
                  exact ih _ _ _ _ _ (lv_sub hl [1, 2, 3, 4, 0] rfl) hP hD hS hk hF
                · have hF := q_ie hF c18
                  refine lv_iload hx hb dX6_factor_101 (lv_at hl 4 rfl) ?_
                  exact hRet (v9, j10) _ _ _ _ hF rfl dX6_factor_103 hP hD hS
          refine L65 _ _ _ _ _ _ _ (lv_sub hl [2, 3, 4, 1, 0] rfl) hP hD hS ?_ hF
          clear hF
          intro j11 H locs ls hl hP hD hS hF
          refine lv_bipush (v := -4) hx hb dX6_factor_110 (by decide) ?_
          exact hRet ((-4 : Int32), j11) _ _ _ _ hF rfl dX6_factor_112 hP hD hS
        · have hF := q_ie hF c4
          refine lv_iconst (v := -1) hx hb dX6_factor_22 (by decide) ?_
          exact hRet ((-1 : Int32), j) _ _ _ _ hF rfl dX6_factor_23 hP hD hS
theorem ky_X6_figuresOf : q_YS yX6_figuresOf cX6_figuresOf 1 (some .int) 1 := ⟨cw_X6_figuresOf, st_X6_figuresOf, in_X6, by decide +kernel⟩
set_option maxHeartbeats 4000000 in
set_option maxRecDepth 100000 in
theorem c_X6_figuresOf (l : Launch) (D : va_G) (cI cJ : ClassId) (g : Nat → Nat) (w : va_W) (a1 : Int32) (res : Int32) (hF : f_X6_figuresOf a1 = some res) : q_Mi l yX6_figuresOf cX6_figuresOf 1 .int { frames := 0, cells := 0, slots := 0, locals := 0 } D cI cJ g w [.int a1] (res) w := by
  refine q_ofi (res := res) (fun u : Int32 => u) (fun _ : Int32 => w) pl_X6 (Nat.le_of_ble_eq_true rfl) ?_
  intro p e s m args below meth c A Q hM hRet ls hl hP hD hS
  have hx := hM.1.1
  have hb := hM.1.2.1
  have hl : lv_has ls 1 [(0, .int a1)] := hl
  unfold f_X6_figuresOf at hF
  refine lv_iload_n hx hb dX6_figuresOf_0 rfl (lv_at hl 0 rfl) ?_
  refine lv_bipush (v := 10) hx hb dX6_figuresOf_1 (by decide) ?_
  refine lv_icmp_ge (tgt := 10) hx hb dX6_figuresOf_3 (by decide) (fun c1 => ?_) (fun c1 => ?_)
  · have hF := q_it hF c1
    refine lv_iconst (v := 2) hx hb dX6_figuresOf_10 (by decide) ?_
    exact hRet (2 : Int32) _ _ _ _ hF rfl dX6_figuresOf_11 hP hD hS
  · have hF := q_ie hF c1
    refine lv_iconst (v := 1) hx hb dX6_figuresOf_6 (by decide) ?_
    refine lv_goto (tgt := 11) hx hb dX6_figuresOf_7 (by decide) ?_
    exact hRet (1 : Int32) _ _ _ _ hF rfl dX6_figuresOf_11 hP hD hS
theorem ky_X6_figureOf : q_YS yX6_figureOf cX6_figureOf 2 (some .int) 2 := ⟨cw_X6_figureOf, st_X6_figureOf, in_X6, by decide +kernel⟩
set_option maxHeartbeats 4000000 in
set_option maxRecDepth 100000 in
theorem c_X6_figureOf (l : Launch) (D : va_G) (cI cJ : ClassId) (g : Nat → Nat) (w : va_W) (a1 : Int32) (a2 : Int32) (res : Int32) (hF : f_X6_figureOf a1 a2 = some res) : q_Mi l yX6_figureOf cX6_figureOf 2 .int { frames := 0, cells := 0, slots := 0, locals := 0 } D cI cJ g w [.int a1, .int a2] (res) w := by
  refine q_ofi (res := res) (fun u : Int32 => u) (fun _ : Int32 => w) pl_X6 (Nat.le_of_ble_eq_true rfl) ?_
  intro p e s m args below meth c A Q hM hRet ls hl hP hD hS
  have hx := hM.1.1
  have hb := hM.1.2.1
  have hl : lv_has ls 2 [(0, .int a1), (1, .int a2)] := hl
  unfold f_X6_figureOf at hF
  refine lv_bipush (v := 48) hx hb dX6_figureOf_0 (by decide) ?_
  refine lv_iload_n hx hb dX6_figureOf_2 rfl (lv_at hl 1 rfl) ?_
  refine lv_if_ne (tgt := 13) hx hb dX6_figureOf_3 (by decide) (fun c1 => ?_) (fun c1 => ?_)
  · have hF := q_ie hF c1
    refine lv_iload_n hx hb dX6_figureOf_13 rfl (lv_at hl 0 rfl) ?_
    refine lv_bipush (v := 10) hx hb dX6_figureOf_14 (by decide) ?_
    refine lv_idiv hx hb dX6_figureOf_16 (by decide) ?_
    refine lv_iadd hx hb dX6_figureOf_17 ?_
    exact hRet ((48 : Int32) + (a1 / (10 : Int32))) _ _ _ _ hF rfl dX6_figureOf_18 hP hD hS
  · have hF := q_it hF c1
    refine lv_iload_n hx hb dX6_figureOf_6 rfl (lv_at hl 0 rfl) ?_
    refine lv_bipush (v := 10) hx hb dX6_figureOf_7 (by decide) ?_
    refine lv_irem hx hb dX6_figureOf_9 (by decide) ?_
    refine lv_goto (tgt := 17) hx hb dX6_figureOf_10 (by decide) ?_
    refine lv_iadd hx hb dX6_figureOf_17 ?_
    exact hRet ((48 : Int32) + (a1 - a1 / (10 : Int32) * (10 : Int32))) _ _ _ _ hF rfl dX6_figureOf_18 hP hD hS
theorem ky_X6_letterBehindCells : q_Y yX6_letterBehindCells cX6_letterBehindCells 4 (some .int) 1 := ⟨cw_X6_letterBehindCells, im_X6_letterBehindCells, se_X6_letterBehindCells, in_X6, by decide +kernel⟩
set_option maxHeartbeats 4000000 in
set_option maxRecDepth 100000 in
theorem c_X6_letterBehindCells (l : Launch) (D : va_G) (cI cJ : ClassId) (g : Nat → Nat) (ad : Nat → Nat) (j : JS) (x : IS) (a1 : Int32) (res : Int32) (hF : f_X6_letterBehindCells x a1 = some res) : q_Mi l yX6_letterBehindCells cX6_letterBehindCells 4 .int { frames := 1, cells := 0, slots := 0, locals := 21 } D cI cJ g (q_WX cI cJ ad x j) [.ref (ad 0), .int a1] (res) (q_WX cI cJ ad x j) := by
  refine q_ofi (res := res) (fun u : Int32 => u) (fun _ : Int32 => (q_WX cI cJ ad x j)) pl_X6 (Nat.le_of_ble_eq_true rfl) ?_
  intro p e s m args below meth c A Q hM hRet ls hl hP hD hS
  have hx := hM.1.1
  have hb := hM.1.2.1
  have hl : lv_has ls 4 [(0, .ref (ad 0)), (1, .int a1)] := hl
  unfold f_X6_letterBehindCells at hF
  refine lv_iload_n hx hb dX6_letterBehindCells_0 rfl (lv_at hl 1 rfl) ?_
  refine lv_if_ne (tgt := 7) hx hb dX6_letterBehindCells_1 (by decide) (fun c1 => ?_) (fun c1 => ?_)
  · have hF := q_ie hF c1
    refine lv_iconst (v := 1) hx hb dX6_letterBehindCells_7 (by decide) ?_
    refine lv_aload_n hx hb dX6_letterBehindCells_8 rfl (lv_at hl 0 rfl) ?_
    refine qg_X_X6_alarms hM hP fl_X6_33 dX6_letterBehindCells_9 ?_
    refine qg_X_X0_howMany hM hP fl_X6_216 dX6_letterBehindCells_12 ?_
    obtain ⟨r2, hC3, hF⟩ := q_b1_e hF
    refine q_calliS hM (c_X6_figuresOf l D cI cJ g (q_WX cI cJ ad x j) _ _ hC3) hP hD hS ky_X6_figuresOf ml_X6_219 rfl rfl ⟨Nat.le_of_ble_eq_true rfl, Nat.le_of_ble_eq_true rfl⟩ rfl hl.1 rfl (Nat.le_of_ble_eq_true rfl) ⟨Nat.zero_le _, Nat.zero_le _⟩ dX6_letterBehindCells_15 (fun H locs hz4 hP hD hS => ?_)
    refine lv_iadd hx hb dX6_letterBehindCells_18 ?_
    refine lv_topi (fun v5 ev5 => ?_)
    have hF := q_let_e hF ev5
    refine lv_istore_n (lv' := [(2, .int v5), (0, .ref (ad 0)), (1, .int a1)]) hx hb dX6_letterBehindCells_19 rfl hl (by decide) rfl (fun ls hl => ?_)
    refine lv_iload_n hx hb dX6_letterBehindCells_20 rfl (lv_at hl 2 rfl) ?_
    refine lv_iload_n hx hb dX6_letterBehindCells_21 rfl (lv_at hl 0 rfl) ?_
    refine lv_icmp_ge (tgt := 41) hx hb dX6_letterBehindCells_22 (by decide) (fun c6 => ?_) (fun c6 => ?_)
    · have hF := q_it hF c6
      refine lv_iload_n hx hb dX6_letterBehindCells_41 rfl (lv_at hl 2 rfl) ?_
      refine lv_iload_n hx hb dX6_letterBehindCells_42 rfl (lv_at hl 0 rfl) ?_
      refine lv_icmp_ne (tgt := 49) hx hb dX6_letterBehindCells_43 (by decide) (fun c7 => ?_) (fun c7 => ?_)
      · have hF := q_ie hF c7
        refine lv_iload_n hx hb dX6_letterBehindCells_49 rfl (lv_at hl 0 rfl) ?_
        refine lv_iconst (v := 1) hx hb dX6_letterBehindCells_50 (by decide) ?_
        refine lv_iadd hx hb dX6_letterBehindCells_51 ?_
        refine lv_aload_n hx hb dX6_letterBehindCells_52 rfl (lv_at hl 1 rfl) ?_
        refine qg_X_X6_alarms hM hP fl_X6_33 dX6_letterBehindCells_53 ?_
        refine qg_X_X0_bunches hM hP fl_X6_167 dX6_letterBehindCells_56 ?_
        obtain ⟨r8, hC9, hF⟩ := q_b1_e hF
        refine q_calliS hM (c_X6_figuresOf l D cI cJ g (q_WX cI cJ ad x j) _ _ hC9) hP hD hS ky_X6_figuresOf ml_X6_219 rfl rfl ⟨Nat.le_of_ble_eq_true rfl, Nat.le_of_ble_eq_true rfl⟩ rfl hl.1 rfl (Nat.le_of_ble_eq_true rfl) ⟨Nat.zero_le _, Nat.zero_le _⟩ dX6_letterBehindCells_59 (fun H locs hz10 hP hD hS => ?_)
        refine lv_iadd hx hb dX6_letterBehindCells_62 ?_
        refine lv_topi (fun v11 ev11 => ?_)
        have hF := q_let_e hF ev11
        refine lv_istore_n (lv' := [(3, .int v11), (2, .int v5), (0, .ref (ad 0)), (1, .int a1)]) hx hb dX6_letterBehindCells_63 rfl hl (by decide) rfl (fun ls hl => ?_)
        refine lv_iload_n hx hb dX6_letterBehindCells_64 rfl (lv_at hl 3 rfl) ?_
        refine lv_iload_n hx hb dX6_letterBehindCells_65 rfl (lv_at hl 0 rfl) ?_
        refine lv_icmp_ge (tgt := 87) hx hb dX6_letterBehindCells_66 (by decide) (fun c12 => ?_) (fun c12 => ?_)
        · have hF := q_it hF c12
          refine lv_bipush (v := -4) hx hb dX6_letterBehindCells_87 (by decide) ?_
          exact hRet (-4 : Int32) _ _ _ _ hF rfl dX6_letterBehindCells_89 hP hD hS
        · have hF := q_ie hF c12
          refine lv_aload_n hx hb dX6_letterBehindCells_69 rfl (lv_at hl 2 rfl) ?_
          refine qg_X_X6_alarms hM hP fl_X6_33 dX6_letterBehindCells_70 ?_
          refine qg_X_X0_bunches hM hP fl_X6_167 dX6_letterBehindCells_73 ?_
          refine lv_iload_n hx hb dX6_letterBehindCells_76 rfl (lv_at hl 0 rfl) ?_
          refine lv_iconst (v := 1) hx hb dX6_letterBehindCells_77 (by decide) ?_
          refine lv_isub hx hb dX6_letterBehindCells_78 ?_
          refine lv_iload_n hx hb dX6_letterBehindCells_79 rfl (lv_at hl 3 rfl) ?_
          refine lv_isub hx hb dX6_letterBehindCells_80 ?_
          obtain ⟨r13, hC14, hF⟩ := q_b1_e hF
          refine q_calliS hM (c_X6_figureOf l D cI cJ g (q_WX cI cJ ad x j) _ _ _ hC14) hP hD hS ky_X6_figureOf ml_X6_222 rfl rfl ⟨Nat.le_of_ble_eq_true rfl, Nat.le_of_ble_eq_true rfl⟩ rfl hl.1 rfl (Nat.le_of_ble_eq_true rfl) ⟨Nat.zero_le _, Nat.zero_le _⟩ dX6_letterBehindCells_81 (fun H locs hz15 hP hD hS => ?_)
          refine lv_goto (tgt := 89) hx hb dX6_letterBehindCells_84 (by decide) ?_
          exact hRet r13 _ _ _ _ hF rfl dX6_letterBehindCells_89 hP hD hS
      · have hF := q_it hF c7
        refine lv_bipush (v := 32) hx hb dX6_letterBehindCells_46 (by decide) ?_
        exact hRet (32 : Int32) _ _ _ _ hF rfl dX6_letterBehindCells_48 hP hD hS
    · have hF := q_ie hF c6
      refine lv_aload_n hx hb dX6_letterBehindCells_25 rfl (lv_at hl 1 rfl) ?_
      refine qg_X_X6_alarms hM hP fl_X6_33 dX6_letterBehindCells_26 ?_
      refine qg_X_X0_howMany hM hP fl_X6_216 dX6_letterBehindCells_29 ?_
      refine lv_iload_n hx hb dX6_letterBehindCells_32 rfl (lv_at hl 0 rfl) ?_
      refine lv_iconst (v := 1) hx hb dX6_letterBehindCells_33 (by decide) ?_
      refine lv_isub hx hb dX6_letterBehindCells_34 ?_
      refine lv_iload_n hx hb dX6_letterBehindCells_35 rfl (lv_at hl 2 rfl) ?_
      refine lv_isub hx hb dX6_letterBehindCells_36 ?_
      obtain ⟨r16, hC17, hF⟩ := q_b1_e hF
      refine q_calliS hM (c_X6_figureOf l D cI cJ g (q_WX cI cJ ad x j) _ _ _ hC17) hP hD hS ky_X6_figureOf ml_X6_222 rfl rfl ⟨Nat.le_of_ble_eq_true rfl, Nat.le_of_ble_eq_true rfl⟩ rfl hl.1 rfl (Nat.le_of_ble_eq_true rfl) ⟨Nat.zero_le _, Nat.zero_le _⟩ dX6_letterBehindCells_37 (fun H locs hz18 hP hD hS => ?_)
      exact hRet r16 _ _ _ _ hF rfl dX6_letterBehindCells_40 hP hD hS
  · have hF := q_it hF c1
    refine lv_bipush (v := 61) hx hb dX6_letterBehindCells_4 (by decide) ?_
    exact hRet (61 : Int32) _ _ _ _ hF rfl dX6_letterBehindCells_6 hP hD hS
theorem ky_X6_drawn : q_Y yX6_drawn cX6_drawn 2 (some .int) 1 := ⟨cw_X6_drawn, im_X6_drawn, se_X6_drawn, in_X6, by decide +kernel⟩
set_option maxHeartbeats 4000000 in
set_option maxRecDepth 100000 in
theorem c_X6_drawn (l : Launch) (D : va_G) (cI cJ : ClassId) (g : Nat → Nat) (ad : Nat → Nat) (j : JS) (x : IS) (a1 : Int32) (res : Int32 × IS) (hF : f_X6_drawn x a1 = some res) : q_Mi l yX6_drawn cX6_drawn 2 .int { frames := 6, cells := 0, slots := 0, locals := 141 } D cI cJ g (q_WX cI cJ ad x j) [.ref (ad 0), .int a1] (res.1) (q_WX cI cJ ad (res.2) j) := by
  refine q_ofi (res := res) (fun u : Int32 × IS => u.1) (fun u : Int32 × IS => (q_WX cI cJ ad (u.2) j)) pl_X6 (Nat.le_of_ble_eq_true rfl) ?_
  intro p e s m args below meth c A Q hM hRet ls hl hP hD hS
  have hx := hM.1.1
  have hb := hM.1.2.1
  have hl : lv_has ls 2 [(0, .ref (ad 0)), (1, .int a1)] := hl
  unfold f_X6_drawn at hF
  refine lv_iload_n hx hb dX6_drawn_0 rfl (lv_at hl 1 rfl) ?_
  refine lv_if_ge (tgt := 6) hx hb dX6_drawn_1 (by decide) (fun c1 => ?_) (fun c1 => ?_)
  · have hF := q_it hF c1
    refine lv_aload_n hx hb dX6_drawn_6 rfl (lv_at hl 0 rfl) ?_
    refine qg_X_X6_alarms hM hP fl_X6_33 dX6_drawn_7 ?_
    refine lv_aload_n hx hb dX6_drawn_10 rfl (lv_at hl 0 rfl) ?_
    refine qg_X_X6_row hM hP fl_X6_26 dX6_drawn_11 ?_
    obtain ⟨x2, hC3, hF⟩ := q_b1_e hF
    refine q_callv hM (c_X0_settle l D cI cJ g ad j _ _ hC3) hP hD hS ky_X0_settle ml_X6_157 rfl rfl ⟨Nat.le_of_ble_eq_true rfl, Nat.le_of_ble_eq_true rfl⟩ 4 rfl rfl rfl hl.1 rfl (Nat.le_of_ble_eq_true rfl) ⟨Nat.zero_le _, Nat.zero_le _⟩ dX6_drawn_14 (fun H locs hP hD hS => ?_)
    refine lv_aload_n hx hb dX6_drawn_17 rfl (lv_at hl 0 rfl) ?_
    refine qg_X_X6_row hM hP fl_X6_26 dX6_drawn_18 ?_
    refine lv_iload_n hx hb dX6_drawn_21 rfl (lv_at hl 1 rfl) ?_
    obtain ⟨r4, hC5, hF⟩ := q_b1_e hF
    refine q_calli hM (c_X3_has l D cI cJ g ad j _ _ _ hC5) hP hD hS ky_X3_has ml_X6_87 rfl rfl ⟨Nat.le_of_ble_eq_true rfl, Nat.le_of_ble_eq_true rfl⟩ 3 rfl rfl rfl hl.1 rfl (Nat.le_of_ble_eq_true rfl) ⟨Nat.zero_le _, Nat.zero_le _⟩ dX6_drawn_22 (fun H locs hz6 hP hD hS => ?_)
    refine lv_if_eq (tgt := 55) hx hb dX6_drawn_25 (by decide) (fun c7 => ?_) (fun c7 => ?_)
    · have hF := q_it hF c7
      refine lv_aload_n hx hb dX6_drawn_55 rfl (lv_at hl 0 rfl) ?_
      refine lv_iload_n hx hb dX6_drawn_56 rfl (lv_at hl 1 rfl) ?_
      refine lv_aload_n hx hb dX6_drawn_57 rfl (lv_at hl 0 rfl) ?_
      refine qg_X_X6_row hM hP fl_X6_26 dX6_drawn_58 ?_
      refine qg_X_X3_size hM hP fl_X6_80 dX6_drawn_61 ?_
      refine lv_isub hx hb dX6_drawn_64 ?_
      obtain ⟨r8, hC9, hF⟩ := q_b1_e hF
      refine q_calli hM (c_X6_letterBehindCells l D cI cJ g ad j _ _ _ hC9) hP hD hS ky_X6_letterBehindCells ml_X6_213 rfl rfl ⟨Nat.le_of_ble_eq_true rfl, Nat.le_of_ble_eq_true rfl⟩ 0 rfl rfl rfl hl.1 rfl (Nat.le_of_ble_eq_true rfl) ⟨Nat.zero_le _, Nat.zero_le _⟩ dX6_drawn_65 (fun H locs hz10 hP hD hS => ?_)
      exact hRet (r8, x2) _ _ _ _ hF rfl dX6_drawn_68 hP hD hS
    · have hF := q_ie hF c7
      refine lv_aload_n hx hb dX6_drawn_28 rfl (lv_at hl 0 rfl) ?_
      refine qg_X_X6_row hM hP fl_X6_26 dX6_drawn_29 ?_
      refine qg_X_X3_left hM hP fl_X6_105 dX6_drawn_32 ?_
      refine lv_iload_n hx hb dX6_drawn_35 rfl (lv_at hl 1 rfl) ?_
      obtain ⟨h11, hF⟩ := q_gd_e hF
      refine ql_X_X3_left hM hP h11 dX6_drawn_36 ?_
      refine lv_iconst (v := 1) hx hb dX6_drawn_37 (by decide) ?_
      refine lv_icmp_ne (tgt := 46) hx hb dX6_drawn_38 (by decide) (fun c12 => ?_) (fun c12 => ?_)
      · have hF := q_ie hF c12
        refine lv_aload_n hx hb dX6_drawn_46 rfl (lv_at hl 0 rfl) ?_
        refine qg_X_X6_alarms hM hP fl_X6_33 dX6_drawn_47 ?_
        refine lv_iload_n hx hb dX6_drawn_50 rfl (lv_at hl 1 rfl) ?_
        obtain ⟨r13, hC14, hF⟩ := q_b1_e hF
        refine q_calli hM (c_X0_letterOf l D cI cJ g ad j _ _ _ hC14) hP hD hS ky_X0_letterOf ml_X6_209 rfl rfl ⟨Nat.le_of_ble_eq_true rfl, Nat.le_of_ble_eq_true rfl⟩ 4 rfl rfl rfl hl.1 rfl (Nat.le_of_ble_eq_true rfl) ⟨Nat.zero_le _, Nat.zero_le _⟩ dX6_drawn_51 (fun H locs hz15 hP hD hS => ?_)
        exact hRet (r13, x2) _ _ _ _ hF rfl dX6_drawn_54 hP hD hS
      · have hF := q_it hF c12
        refine lv_bipush (v := 120) hx hb dX6_drawn_41 (by decide) ?_
        refine lv_goto (tgt := 54) hx hb dX6_drawn_43 (by decide) ?_
        exact hRet ((120 : Int32), x2) _ _ _ _ hF rfl dX6_drawn_54 hP hD hS
  · have hF := q_ie hF c1
    refine lv_iconst (v := -1) hx hb dX6_drawn_4 (by decide) ?_
    exact hRet ((-1 : Int32), x) _ _ _ _ hF rfl dX6_drawn_5 hP hD hS
theorem ky_X6_count : q_Y yX6_count cX6_count 2 (some .int) 1 := ⟨cw_X6_count, im_X6_count, se_X6_count, in_X6, by decide +kernel⟩
set_option maxHeartbeats 4000000 in
set_option maxRecDepth 100000 in
theorem c_X6_count (l : Launch) (D : va_G) (cI cJ : ClassId) (g : Nat → Nat) (ad : Nat → Nat) (j : JS) (x : IS) (a1 : Int32) (res : Int32 × IS) (hF : f_X6_count x a1 = some res) : q_Mi l yX6_count cX6_count 2 .int { frames := 6, cells := 0, slots := 0, locals := 141 } D cI cJ g (q_WX cI cJ ad x j) [.ref (ad 0), .int a1] (res.1) (q_WX cI cJ ad (res.2) j) := by
  refine q_ofi (res := res) (fun u : Int32 × IS => u.1) (fun u : Int32 × IS => (q_WX cI cJ ad (u.2) j)) pl_X6 (Nat.le_of_ble_eq_true rfl) ?_
  intro p e s m args below meth c A Q hM hRet ls hl hP hD hS
  have hx := hM.1.1
  have hb := hM.1.2.1
  have hl : lv_has ls 2 [(0, .ref (ad 0)), (1, .int a1)] := hl
  unfold f_X6_count at hF
  refine lv_iload_n hx hb dX6_count_0 rfl (lv_at hl 1 rfl) ?_
  obtain ⟨J72, hJ72, hF⟩ := q_jn_e hF
  have K72 : ∀ (H : Heap) (locs : List Loc) (ls : Array Slot), lv_has ls 2 [(0, .ref (ad 0)), (1, .int a1)] → va_P D vwCl (q_WX cI cJ ad x j) H → va_D A (q_WX cI cJ ad x j) → va_S A s.heap H locs → J72 = some res → W p l e { frames := 6, cells := 0, slots := 0, locals := 141 } s m args below meth c H locs 0 0 Q (F0 m 72 ls []) := by
    clear hF; intro H locs ls hl hP hD hS hF
    rw [hJ72] at hF
    refine lv_aload_n hx hb dX6_count_72 rfl (lv_at hl 0 rfl) ?_
    refine qg_X_X6_row hM hP fl_X6_26 dX6_count_73 ?_
    refine qg_X_X3_look hM hP fl_X6_119 dX6_count_76 ?_
    refine lv_iload_n hx hb dX6_count_79 rfl (lv_at hl 1 rfl) ?_
    refine lv_iconst (v := 1) hx hb dX6_count_80 (by decide) ?_
    refine lv_isub hx hb dX6_count_81 ?_
    obtain ⟨h20, hF⟩ := q_gd_e hF
    refine ql_X_X3_look hM hP h20 dX6_count_82 ?_
    exact hRet ((x 10 (a1 - (1 : Int32)).toNatClampNeg), x) _ _ _ _ hF rfl dX6_count_83 hP hD hS
  by_cases c1 : a1 = 0
  · have hF := q_it hF c1
    refine lv_tableIn (off := 63) (tgt := 64) hx hb dX6_count_1 (by rw [c1]; decide) (by rw [c1]; decide) (by rw [c1]; rfl) (by decide) ?_
    refine lv_aload_n hx hb dX6_count_64 rfl (lv_at hl 0 rfl) ?_
    refine qg_X_X6_row hM hP fl_X6_26 dX6_count_65 ?_
    refine qg_X_X3_size hM hP fl_X6_80 dX6_count_68 ?_
    exact hRet ((x 13 0), x) _ _ _ _ hF rfl dX6_count_71 hP hD hS
  · have hF := q_ie hF c1
    by_cases c2 : a1 = 1
    · have hF := q_it hF c2
      refine lv_tableIn (off := 71) (tgt := 72) hx hb dX6_count_1 (by rw [c2]; decide) (by rw [c2]; decide) (by rw [c2]; rfl) (by decide) ?_
      exact K72 _ _ _ (lv_sub hl [0, 1] rfl) hP hD hS hF
    · have hF := q_ie hF c2
      by_cases c3 : a1 = 2
      · have hF := q_it hF c3
        refine lv_tableIn (off := 71) (tgt := 72) hx hb dX6_count_1 (by rw [c3]; decide) (by rw [c3]; decide) (by rw [c3]; rfl) (by decide) ?_
        exact K72 _ _ _ (lv_sub hl [0, 1] rfl) hP hD hS hF
      · have hF := q_ie hF c3
        by_cases c4 : a1 = 3
        · have hF := q_it hF c4
          refine lv_tableIn (off := 71) (tgt := 72) hx hb dX6_count_1 (by rw [c4]; decide) (by rw [c4]; decide) (by rw [c4]; rfl) (by decide) ?_
          exact K72 _ _ _ (lv_sub hl [0, 1] rfl) hP hD hS hF
        · have hF := q_ie hF c4
          by_cases c5 : a1 = 4
          · have hF := q_it hF c5
            refine lv_tableIn (off := 71) (tgt := 72) hx hb dX6_count_1 (by rw [c5]; decide) (by rw [c5]; decide) (by rw [c5]; rfl) (by decide) ?_
            exact K72 _ _ _ (lv_sub hl [0, 1] rfl) hP hD hS hF
          · have hF := q_ie hF c5
            by_cases c6 : a1 = 5
            · have hF := q_it hF c6
              refine lv_tableIn (off := 71) (tgt := 72) hx hb dX6_count_1 (by rw [c6]; decide) (by rw [c6]; decide) (by rw [c6]; rfl) (by decide) ?_
              exact K72 _ _ _ (lv_sub hl [0, 1] rfl) hP hD hS hF
            · have hF := q_ie hF c6
              by_cases c7 : a1 = 6
              · have hF := q_it hF c7
                refine lv_tableIn (off := 83) (tgt := 84) hx hb dX6_count_1 (by rw [c7]; decide) (by rw [c7]; decide) (by rw [c7]; rfl) (by decide) ?_
                refine lv_aload_n hx hb dX6_count_84 rfl (lv_at hl 0 rfl) ?_
                refine qg_X_X6_row hM hP fl_X6_26 dX6_count_85 ?_
                refine qg_X_X3_mode hM hP fl_X6_125 dX6_count_88 ?_
                exact hRet ((x 14 0), x) _ _ _ _ hF rfl dX6_count_91 hP hD hS
              · have hF := q_ie hF c7
                by_cases c8 : a1 = 7
                · have hF := q_it hF c8
                  refine lv_tableIn (off := 91) (tgt := 92) hx hb dX6_count_1 (by rw [c8]; decide) (by rw [c8]; decide) (by rw [c8]; rfl) (by decide) ?_
                  refine lv_aload_n hx hb dX6_count_92 rfl (lv_at hl 0 rfl) ?_
                  refine qg_X_X6_alarms hM hP fl_X6_33 dX6_count_93 ?_
                  refine lv_aload_n hx hb dX6_count_96 rfl (lv_at hl 0 rfl) ?_
                  refine qg_X_X6_row hM hP fl_X6_26 dX6_count_97 ?_
                  obtain ⟨x18, hC19, hF⟩ := q_b1_e hF
                  refine q_callv hM (c_X0_settle l D cI cJ g ad j _ _ hC19) hP hD hS ky_X0_settle ml_X6_157 rfl rfl ⟨Nat.le_of_ble_eq_true rfl, Nat.le_of_ble_eq_true rfl⟩ 4 rfl rfl rfl hl.1 rfl (Nat.le_of_ble_eq_true rfl) ⟨Nat.zero_le _, Nat.zero_le _⟩ dX6_count_100 (fun H locs hP hD hS => ?_)
                  refine lv_aload_n hx hb dX6_count_103 rfl (lv_at hl 0 rfl) ?_
                  refine qg_X_X6_alarms hM hP fl_X6_33 dX6_count_104 ?_
                  refine qg_X_X0_howMany hM hP fl_X6_216 dX6_count_107 ?_
                  exact hRet ((x18 21 0), x18) _ _ _ _ hF rfl dX6_count_110 hP hD hS
                · have hF := q_ie hF c8
                  by_cases c9 : a1 = 8
                  · have hF := q_it hF c9
                    refine lv_tableIn (off := 110) (tgt := 111) hx hb dX6_count_1 (by rw [c9]; decide) (by rw [c9]; decide) (by rw [c9]; rfl) (by decide) ?_
                    refine lv_aload_n hx hb dX6_count_111 rfl (lv_at hl 0 rfl) ?_
                    refine qg_X_X6_alarms hM hP fl_X6_33 dX6_count_112 ?_
                    refine lv_aload_n hx hb dX6_count_115 rfl (lv_at hl 0 rfl) ?_
                    refine qg_X_X6_row hM hP fl_X6_26 dX6_count_116 ?_
                    obtain ⟨x16, hC17, hF⟩ := q_b1_e hF
                    refine q_callv hM (c_X0_settle l D cI cJ g ad j _ _ hC17) hP hD hS ky_X0_settle ml_X6_157 rfl rfl ⟨Nat.le_of_ble_eq_true rfl, Nat.le_of_ble_eq_true rfl⟩ 4 rfl rfl rfl hl.1 rfl (Nat.le_of_ble_eq_true rfl) ⟨Nat.zero_le _, Nat.zero_le _⟩ dX6_count_119 (fun H locs hP hD hS => ?_)
                    refine lv_aload_n hx hb dX6_count_122 rfl (lv_at hl 0 rfl) ?_
                    refine qg_X_X6_alarms hM hP fl_X6_33 dX6_count_123 ?_
                    refine qg_X_X0_bunches hM hP fl_X6_167 dX6_count_126 ?_
                    exact hRet ((x16 22 0), x16) _ _ _ _ hF rfl dX6_count_129 hP hD hS
                  · have hF := q_ie hF c9
                    by_cases c10 : a1 = 9
                    · have hF := q_it hF c10
                      refine lv_tableIn (off := 129) (tgt := 130) hx hb dX6_count_1 (by rw [c10]; decide) (by rw [c10]; decide) (by rw [c10]; rfl) (by decide) ?_
                      refine lv_aload_n hx hb dX6_count_130 rfl (lv_at hl 0 rfl) ?_
                      refine qg_X_X6_row hM hP fl_X6_26 dX6_count_131 ?_
                      obtain ⟨r13, hC14, hF⟩ := q_b1_e hF
                      refine q_calli hM (c_X3_howManyLeft l D cI cJ g ad j _ _ hC14) hP hD hS ky_X3_howManyLeft ml_X6_111 rfl rfl ⟨Nat.le_of_ble_eq_true rfl, Nat.le_of_ble_eq_true rfl⟩ 3 rfl rfl rfl hl.1 rfl (Nat.le_of_ble_eq_true rfl) ⟨Nat.zero_le _, Nat.zero_le _⟩ dX6_count_134 (fun H locs hz15 hP hD hS => ?_)
                      exact hRet (r13, x) _ _ _ _ hF rfl dX6_count_137 hP hD hS
                    · have hF := q_ie hF c10
                      by_cases c11 : a1 = 10
                      · have hF := q_it hF c11
                        refine lv_tableIn (off := 137) (tgt := 138) hx hb dX6_count_1 (by rw [c11]; decide) (by rw [c11]; decide) (by rw [c11]; rfl) (by decide) ?_
                        refine lv_aload_n hx hb dX6_count_138 rfl (lv_at hl 0 rfl) ?_
                        refine qg_X_X6_past hM hP fl_X6_47 dX6_count_139 ?_
                        refine qg_X_X2_size hM hP fl_X6_86 dX6_count_142 ?_
                        exact hRet ((x 28 0), x) _ _ _ _ hF rfl dX6_count_145 hP hD hS
                      · have hF := q_ie hF c11
                        by_cases c12 : a1 = 11
                        · have hF := q_it hF c12
                          refine lv_tableIn (off := 145) (tgt := 146) hx hb dX6_count_1 (by rw [c12]; decide) (by rw [c12]; decide) (by rw [c12]; rfl) (by decide) ?_
                          refine lv_aload_n hx hb dX6_count_146 rfl (lv_at hl 0 rfl) ?_
                          refine qg_X_X6_text hM hP fl_X6_10 dX6_count_147 ?_
                          refine qg_X_X4_length hM hP fl_X6_65 dX6_count_150 ?_
                          exact hRet ((x 2 0), x) _ _ _ _ hF rfl dX6_count_153 hP hD hS
                        · have hF := q_ie hF c12
                          refine lv_tableOut (tgt := 154) hx hb dX6_count_1 (by have z0 := q_ne c1; have z1 := q_ne c2; have z2 := q_ne c3; have z3 := q_ne c4; have z4 := q_ne c5; have z5 := q_ne c6; have z6 := q_ne c7; have z7 := q_ne c8; have z8 := q_ne c9; have z9 := q_ne c10; have z10 := q_ne c11; have z11 := q_ne c12; have y0 : (a1).toInt < 0 ∨ 11 < (a1).toInt := (by rw [show (0 : Int32).toInt = 0 from rfl] at z0; rw [show (1 : Int32).toInt = 1 from rfl] at z1; rw [show (2 : Int32).toInt = 2 from rfl] at z2; rw [show (3 : Int32).toInt = 3 from rfl] at z3; rw [show (4 : Int32).toInt = 4 from rfl] at z4; rw [show (5 : Int32).toInt = 5 from rfl] at z5; rw [show (6 : Int32).toInt = 6 from rfl] at z6; rw [show (7 : Int32).toInt = 7 from rfl] at z7; rw [show (8 : Int32).toInt = 8 from rfl] at z8; rw [show (9 : Int32).toInt = 9 from rfl] at z9; rw [show (10 : Int32).toInt = 10 from rfl] at z10; rw [show (11 : Int32).toInt = 11 from rfl] at z11; omega); exact y0) (by decide) ?_
                          refine lv_iconst (v := -1) hx hb dX6_count_154 (by decide) ?_
                          exact hRet ((-1 : Int32), x) _ _ _ _ hF rfl dX6_count_155 hP hD hS
theorem ky_X5_addCells__S : q_Y yX5_addCells cX5_addCells 3 (some .boolean) 2 := ⟨cw_X5_addCells, im_X5_addCells, se_X5_addCells, in_X5, by decide +kernel⟩
set_option maxHeartbeats 4000000 in
set_option maxRecDepth 100000 in
theorem c_X5_addCells__S (l : Launch) (D : va_G) (cI cJ : ClassId) (g : Nat → Nat) (ad : Nat → Nat) (j : JS) (x : IS) (a2 : Int32) (res : Int32 × IS) (hF : f_X5_addCells__S x a2 = some res) : q_Mi l yX5_addCells cX5_addCells 3 .boolean { frames := 1, cells := 0, slots := 0, locals := 26 } D cI cJ g (q_WX cI cJ ad x j) [.ref (ad 2), .ref (g 2), .int a2] (res.1) (q_WX cI cJ ad (res.2) j) := by
  refine q_ofi (res := res) (fun u : Int32 × IS => u.1) (fun u : Int32 × IS => (q_WX cI cJ ad (u.2) j)) pl_X5 (Nat.le_of_ble_eq_true rfl) ?_
  intro p e s m args below meth c A Q hM hRet ls hl hP hD hS
  have hx := hM.1.1
  have hb := hM.1.2.1
  have hl : lv_has ls 3 [(0, .ref (ad 2)), (1, .ref (g 2)), (2, .int a2)] := hl
  unfold f_X5_addCells__S at hF
  refine lv_iload_n hx hb dX5_addCells_0 rfl (lv_at hl 2 rfl) ?_
  refine lv_iconst (v := 1) hx hb dX5_addCells_1 (by decide) ?_
  refine lv_icmp_lt (tgt := 22) hx hb dX5_addCells_2 (by decide) (fun c1 => ?_) (fun c1 => ?_)
  · have hF := q_it hF c1
    refine lv_iconst (v := 0) hx hb dX5_addCells_22 (by decide) ?_
    exact hRet ((0 : Int32), x) _ _ _ _ hF narrow_b0 dX5_addCells_23 hP hD hS
  · have hF := q_ie hF c1
    refine lv_iload_n hx hb dX5_addCells_5 rfl (lv_at hl 2 rfl) ?_
    refine lv_aload_n hx hb dX5_addCells_6 rfl (lv_at hl 1 rfl) ?_
    refine qns_FIRST_CELLS hM hS dX5_addCells_7 ?_
    refine lv_icmp_gt (tgt := 22) hx hb dX5_addCells_8 (by decide) (fun c2 => ?_) (fun c2 => ?_)
    · have hF := q_it hF c2
      refine lv_iconst (v := 0) hx hb dX5_addCells_22 (by decide) ?_
      exact hRet ((0 : Int32), x) _ _ _ _ hF narrow_b0 dX5_addCells_23 hP hD hS
    · have hF := q_ie hF c2
      refine lv_aload_n hx hb dX5_addCells_11 rfl (lv_at hl 0 rfl) ?_
      refine qg_X_X5_size hM hP fl_X5_24 dX5_addCells_12 ?_
      refine lv_iload_n hx hb dX5_addCells_15 rfl (lv_at hl 2 rfl) ?_
      refine lv_iadd hx hb dX5_addCells_16 ?_
      refine lv_bipush (v := 48) hx hb dX5_addCells_17 (by decide) ?_
      refine lv_icmp_le (tgt := 24) hx hb dX5_addCells_19 (by decide) (fun c3 => ?_) (fun c3 => ?_)
      · have hF := q_it hF c3
        refine lv_aload_n hx hb dX5_addCells_24 rfl (lv_at hl 1 rfl) ?_
        refine lv_iconst (v := 0) hx hb dX5_addCells_25 (by decide) ?_
        refine lv_aload_n hx hb dX5_addCells_26 rfl (lv_at hl 0 rfl) ?_
        refine qg_X_X5_powers hM hP fl_X5_9 dX5_addCells_27 ?_
        refine lv_aload_n hx hb dX5_addCells_30 rfl (lv_at hl 0 rfl) ?_
        refine qg_X_X5_size hM hP fl_X5_24 dX5_addCells_31 ?_
        refine lv_iload_n hx hb dX5_addCells_34 rfl (lv_at hl 2 rfl) ?_
        obtain ⟨h5, hF⟩ := q_gd_e hF
        refine qc_FIRST_CELLS_X5_powers hM hP hD hS ml_X5_31 h5 hl.1 ⟨Nat.le_of_ble_eq_true rfl, Nat.le_of_ble_eq_true rfl⟩ dX5_addCells_35 (fun x4 H locs ex4 hP hD hS => ?_)
        have hF := q_let_e hF ex4
        refine lv_aload_n hx hb dX5_addCells_38 rfl (lv_at hl 0 rfl) ?_
        refine lv_dup hx hb dX5_addCells_39 rfl ?_
        refine qg_X_X5_size hM hP fl_X5_24 dX5_addCells_40 ?_
        refine lv_iload_n hx hb dX5_addCells_43 rfl (lv_at hl 2 rfl) ?_
        refine lv_iadd hx hb dX5_addCells_44 ?_
        refine qp_X_X5_size hM hP hD hS fl_X5_24 dX5_addCells_45 (fun x6 H locs ex6 hP hD hS => ?_)
        have hF := q_let_e hF ex6
        refine lv_iconst (v := 1) hx hb dX5_addCells_48 (by decide) ?_
        exact hRet ((1 : Int32), x6) _ _ _ _ hF narrow_b1 dX5_addCells_49 hP hD hS
      · have hF := q_ie hF c3
        refine lv_iconst (v := 0) hx hb dX5_addCells_22 (by decide) ?_
        exact hRet ((0 : Int32), x) _ _ _ _ hF narrow_b0 dX5_addCells_23 hP hD hS
end
