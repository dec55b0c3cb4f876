section
theorem ky_X7_adds : q_Y yX7_adds cX7_adds 5 none 4 := ⟨cw_X7_adds, im_X7_adds, se_X7_adds, in_X7, by decide +kernel⟩
set_option maxHeartbeats 4000000 in
set_option maxRecDepth 100000 in
theorem c_X7_adds (l : Launch) (D : va_G) (cI cJ : ClassId) (g : Nat → Nat) (ad : Nat → Nat) (x : IS) (a1 : Int32) (a2 : Int32) (a3 : Int32) (a4 : Int32) (res : IS) (hF : f_X7_adds x a1 a2 a3 a4 = some res) : q_Mv l yX7_adds cX7_adds 5 { frames := 0, cells := 0, slots := 0, locals := 0 } D cI cJ g (q_WM cI ad x) [.ref (ad 0), .int a1, .int a2, .int a3, .int a4] (q_WM cI ad res) := by
  refine q_ofv (res := res) (fun u : IS => (q_WM cI ad u)) pl_X7 (Nat.le_of_ble_eq_true rfl) ?_
  intro p e s m args below meth c A Q hM hRet ls hl hP hD hS
  have hx := hM.1.1
  have hb := hM.1.2.1
  have hl : lv_has ls 5 [(0, .ref (ad 0)), (1, .int a1), (2, .int a2), (3, .int a3), (4, .int a4)] := hl
  unfold f_X7_adds at hF
  refine lv_aload_n hx hb dX7_adds_0 rfl (lv_at hl 0 rfl) ?_
  refine qg_M_X7_read hM hP fl_X7_22 dX7_adds_1 ?_
  refine lv_aload_n hx hb dX7_adds_4 rfl (lv_at hl 0 rfl) ?_
  refine qg_M_X7_readCells hM hP fl_X7_41 dX7_adds_5 ?_
  refine lv_iload_n hx hb dX7_adds_8 rfl (lv_at hl 1 rfl) ?_
  obtain ⟨h1, hF⟩ := q_gd_e hF
  refine qs_M_X7_read hM hP hD hS h1 dX7_adds_9 (fun x2 H locs ex2 hP hD hS => ?_)
  have hF := q_let_e hF ex2
  refine lv_aload_n hx hb dX7_adds_10 rfl (lv_at hl 0 rfl) ?_
  refine qg_M_X7_read hM hP fl_X7_22 dX7_adds_11 ?_
  refine lv_aload_n hx hb dX7_adds_14 rfl (lv_at hl 0 rfl) ?_
  refine qg_M_X7_readCells hM hP fl_X7_41 dX7_adds_15 ?_
  refine lv_iconst (v := 1) hx hb dX7_adds_18 (by decide) ?_
  refine lv_iadd hx hb dX7_adds_19 ?_
  refine lv_iload_n hx hb dX7_adds_20 rfl (lv_at hl 2 rfl) ?_
  obtain ⟨h3, hF⟩ := q_gd_e hF
  refine qs_M_X7_read hM hP hD hS h3 dX7_adds_21 (fun x4 H locs ex4 hP hD hS => ?_)
  have hF := q_let_e hF ex4
  refine lv_aload_n hx hb dX7_adds_22 rfl (lv_at hl 0 rfl) ?_
  refine qg_M_X7_read hM hP fl_X7_22 dX7_adds_23 ?_
  refine lv_aload_n hx hb dX7_adds_26 rfl (lv_at hl 0 rfl) ?_
  refine qg_M_X7_readCells hM hP fl_X7_41 dX7_adds_27 ?_
  refine lv_iconst (v := 2) hx hb dX7_adds_30 (by decide) ?_
  refine lv_iadd hx hb dX7_adds_31 ?_
  refine lv_iload_n hx hb dX7_adds_32 rfl (lv_at hl 3 rfl) ?_
  obtain ⟨h5, hF⟩ := q_gd_e hF
  refine qs_M_X7_read hM hP hD hS h5 dX7_adds_33 (fun x6 H locs ex6 hP hD hS => ?_)
  have hF := q_let_e hF ex6
  refine lv_aload_n hx hb dX7_adds_34 rfl (lv_at hl 0 rfl) ?_
  refine qg_M_X7_read hM hP fl_X7_22 dX7_adds_35 ?_
  refine lv_aload_n hx hb dX7_adds_38 rfl (lv_at hl 0 rfl) ?_
  refine qg_M_X7_readCells hM hP fl_X7_41 dX7_adds_39 ?_
  refine lv_iconst (v := 3) hx hb dX7_adds_42 (by decide) ?_
  refine lv_iadd hx hb dX7_adds_43 ?_
  refine lv_iload hx hb dX7_adds_44 (lv_at hl 4 rfl) ?_
  obtain ⟨h7, hF⟩ := q_gd_e hF
  refine qs_M_X7_read hM hP hD hS h7 dX7_adds_46 (fun x8 H locs ex8 hP hD hS => ?_)
  have hF := q_let_e hF ex8
  refine lv_aload_n hx hb dX7_adds_47 rfl (lv_at hl 0 rfl) ?_
  refine lv_dup hx hb dX7_adds_48 rfl ?_
  refine qg_M_X7_readCells hM hP fl_X7_41 dX7_adds_49 ?_
  refine lv_iconst (v := 4) hx hb dX7_adds_52 (by decide) ?_
  refine lv_iadd hx hb dX7_adds_53 ?_
  refine qp_M_X7_readCells hM hP hD hS fl_X7_41 dX7_adds_54 (fun x9 H locs ex9 hP hD hS => ?_)
  have hF := q_let_e hF ex9
  exact hRet _ _ _ _ _ hF dX7_adds_57 hP hD hS
theorem ky_X7_isIn : q_YS yX7_isIn cX7_isIn 3 (some .boolean) 3 := ⟨cw_X7_isIn, st_X7_isIn, in_X7, by decide +kernel⟩
set_option maxHeartbeats 4000000 in
set_option maxRecDepth 100000 in
theorem c_X7_isIn (l : Launch) (D : va_G) (cI cJ : ClassId) (g : Nat → Nat) (w : va_W) (a1 : Int32) (a2 : Int32) (a3 : Int32) (res : Int32) (hF : f_X7_isIn a1 a2 a3 = some res) : q_Mi l yX7_isIn cX7_isIn 3 .boolean { frames := 0, cells := 0, slots := 0, locals := 0 } D cI cJ g w [.int a1, .int a2, .int a3] (res) w := by
  refine q_ofi (res := res) (fun u : Int32 => u) (fun _ : Int32 => w) pl_X7 (Nat.le_of_ble_eq_true rfl) ?_
  intro p e s m args below meth c A Q hM hRet ls hl hP hD hS
  have hx := hM.1.1
  have hb := hM.1.2.1
  have hl : lv_has ls 3 [(0, .int a1), (1, .int a2), (2, .int a3)] := hl
  unfold f_X7_isIn at hF
  refine lv_iload_n hx hb dX7_isIn_0 rfl (lv_at hl 0 rfl) ?_
  refine lv_iload_n hx hb dX7_isIn_1 rfl (lv_at hl 1 rfl) ?_
  refine lv_icmp_lt (tgt := 14) hx hb dX7_isIn_2 (by decide) (fun c1 => ?_) (fun c1 => ?_)
  · have hF := q_it hF c1
    refine lv_iconst (v := 0) hx hb dX7_isIn_14 (by decide) ?_
    exact hRet (0 : Int32) _ _ _ _ hF narrow_b0 dX7_isIn_15 hP hD hS
  · have hF := q_ie hF c1
    refine lv_iload_n hx hb dX7_isIn_5 rfl (lv_at hl 0 rfl) ?_
    refine lv_iload_n hx hb dX7_isIn_6 rfl (lv_at hl 2 rfl) ?_
    refine lv_icmp_gt (tgt := 14) hx hb dX7_isIn_7 (by decide) (fun c2 => ?_) (fun c2 => ?_)
    · have hF := q_it hF c2
      refine lv_iconst (v := 0) hx hb dX7_isIn_14 (by decide) ?_
      exact hRet (0 : Int32) _ _ _ _ hF narrow_b0 dX7_isIn_15 hP hD hS
    · have hF := q_ie hF c2
      refine lv_iconst (v := 1) hx hb dX7_isIn_10 (by decide) ?_
      refine lv_goto (tgt := 15) hx hb dX7_isIn_11 (by decide) ?_
      exact hRet (1 : Int32) _ _ _ _ hF narrow_b1 dX7_isIn_15 hP hD hS
theorem ky_X7_clears : q_Y yX7_clears cX7_clears 2 none 0 := ⟨cw_X7_clears, im_X7_clears, se_X7_clears, in_X7, by decide +kernel⟩
set_option maxHeartbeats 4000000 in
set_option maxRecDepth 100000 in
theorem c_X7_clears (l : Launch) (D : va_G) (cI cJ : ClassId) (g : Nat → Nat) (ad : Nat → Nat) (x : IS) (res : IS) (hF : f_X7_clears x = some res) : q_Mv l yX7_clears cX7_clears 2 { frames := 0, cells := 0, slots := 0, locals := 0 } D cI cJ g (q_WM cI ad x) [.ref (ad 0)] (q_WM cI ad res) := by
  refine q_ofv (res := res) (fun u : IS => (q_WM cI ad u)) pl_X7 (Nat.le_of_ble_eq_true rfl) ?_
  intro p e s m args below meth c A Q hM hRet ls hl hP hD hS
  have hx := hM.1.1
  have hb := hM.1.2.1
  have hl : lv_has ls 2 [(0, .ref (ad 0))] := hl
  unfold f_X7_clears at hF
  refine lv_aload_n hx hb dX7_clears_0 rfl (lv_at hl 0 rfl) ?_
  refine lv_iconst (v := 0) hx hb dX7_clears_1 (by decide) ?_
  refine qp_M_X7_readCells hM hP hD hS fl_X7_41 dX7_clears_2 (fun x1 H locs ex1 hP hD hS => ?_)
  have hF := q_let_e hF ex1
  refine lv_iconst (v := 0) hx hb dX7_clears_5 (by decide) ?_
  refine lv_istore_n (lv' := [(1, .int (0 : Int32)), (0, .ref (ad 0))]) hx hb dX7_clears_6 rfl hl (by decide) rfl (fun ls hl => ?_)
  have L7 : ∀ (k : IS → Option (IS)) (n : Nat) (v2 : Int32) (x3 : IS) (H : Heap) (locs : List Loc) (ls : Array Slot), lv_has ls 2 [(0, .ref (ad 0)), (1, .int v2)] → va_P D vwCl (q_WM cI ad x3) H → va_D A (q_WM cI ad x3) → va_S A s.heap H locs → (∀ (x4 : IS) (H : Heap) (locs : List Loc) (ls : Array Slot), lv_has ls 2 [(0, .ref (ad 0))] → va_P D vwCl (q_WM cI ad x4) H → va_D A (q_WM cI ad x4) → va_S A s.heap H locs → k x4 = some res → W p l e { frames := 0, cells := 0, slots := 0, locals := 0 } s m args below meth c H locs 0 0 Q (F0 m 26 ls [])) → f_X7_clears_L7 k n v2 x3 = some res → W p l e { frames := 0, cells := 0, slots := 0, locals := 0 } s m args below meth c H locs 0 0 Q (F0 m 7 ls []) := by
    intro k n
    induction n with
    | zero => intro v2 x3 H locs ls hl hP hD hS hk hF; exact q_no hF
    | succ n ih =>
      intro v2 x3 H locs ls hl hP hD hS hk hF
      have hF : f_X7_clears_L7F k (f_X7_clears_L7 k n) v2 x3 = some res := hF
      unfold f_X7_clears_L7F at hF
      refine lv_iload_n hx hb dX7_clears_7 rfl (lv_at hl 1 rfl) ?_
      refine lv_bipush (v := 102) hx hb dX7_clears_8 (by decide) ?_
      refine lv_icmp_ge (tgt := 26) hx hb dX7_clears_10 (by decide) (fun c5 => ?_) (fun c5 => ?_)
      · have hF := q_it hF c5
        exact hk _ _ _ _ (lv_sub hl [0] rfl) hP hD hS hF
      · have hF := q_ie hF c5
        refine lv_aload_n hx hb dX7_clears_13 rfl (lv_at hl 0 rfl) ?_
        refine qg_M_X7_read hM hP fl_X7_22 dX7_clears_14 ?_
        refine lv_iload_n hx hb dX7_clears_17 rfl (lv_at hl 1 rfl) ?_
        refine lv_iconst (v := 0) hx hb dX7_clears_18 (by decide) ?_
        obtain ⟨h6, hF⟩ := q_gd_e hF
        refine qs_M_X7_read hM hP hD hS h6 dX7_clears_19 (fun x7 H locs ex7 hP hD hS => ?_)
        have hF := q_let_e hF ex7
        obtain ⟨v8, ev8⟩ : ∃ y : Int32, y = v2 + 1 := ⟨_, rfl⟩
        have hF := q_let_e hF ev8
        refine lv_iinc (v := v8) (lv' := [(1, .int v8), (0, .ref (ad 0))]) hx hb dX7_clears_20 hl (k := 1) rfl (by rw [ev8]; rfl) (by decide) rfl (fun ls hl => ?_)
        refine lv_goto (tgt := 7) hx hb dX7_clears_23 (by decide) ?_
        exact ih _ _ _ _ _ (lv_sub hl [1, 0] rfl) hP hD hS hk hF
  refine L7 _ _ _ _ _ _ _ (lv_sub hl [1, 0] rfl) hP hD hS ?_ hF
  clear hF
  intro x4 H locs ls hl hP hD hS hF
  refine lv_aload_n hx hb dX7_clears_26 rfl (lv_at hl 0 rfl) ?_
  refine qg_M_X7_read hM hP fl_X7_22 dX7_clears_27 ?_
  refine lv_bipush (v := 96) hx hb dX7_clears_30 (by decide) ?_
  refine lv_iconst (v := 3) hx hb dX7_clears_32 (by decide) ?_
  refine qs_M_X7_read hM hP hD hS (by decide) dX7_clears_33 (fun x9 H locs ex9 hP hD hS => ?_)
  have hF := q_let_e hF ex9
  refine lv_aload_n hx hb dX7_clears_34 rfl (lv_at hl 0 rfl) ?_
  refine qg_M_X7_read hM hP fl_X7_22 dX7_clears_35 ?_
  refine lv_bipush (v := 97) hx hb dX7_clears_38 (by decide) ?_
  refine lv_iconst (v := 1) hx hb dX7_clears_40 (by decide) ?_
  refine qs_M_X7_read hM hP hD hS (by decide) dX7_clears_41 (fun x10 H locs ex10 hP hD hS => ?_)
  have hF := q_let_e hF ex10
  refine lv_aload_n hx hb dX7_clears_42 rfl (lv_at hl 0 rfl) ?_
  refine qg_M_X7_read hM hP fl_X7_22 dX7_clears_43 ?_
  refine lv_bipush (v := 98) hx hb dX7_clears_46 (by decide) ?_
  refine lv_iconst (v := 4) hx hb dX7_clears_48 (by decide) ?_
  refine qs_M_X7_read hM hP hD hS (by decide) dX7_clears_49 (fun x11 H locs ex11 hP hD hS => ?_)
  have hF := q_let_e hF ex11
  refine lv_aload_n hx hb dX7_clears_50 rfl (lv_at hl 0 rfl) ?_
  refine qg_M_X7_read hM hP fl_X7_22 dX7_clears_51 ?_
  refine lv_bipush (v := 99) hx hb dX7_clears_54 (by decide) ?_
  refine lv_iconst (v := 2) hx hb dX7_clears_56 (by decide) ?_
  refine qs_M_X7_read hM hP hD hS (by decide) dX7_clears_57 (fun x12 H locs ex12 hP hD hS => ?_)
  have hF := q_let_e hF ex12
  refine lv_aload_n hx hb dX7_clears_58 rfl (lv_at hl 0 rfl) ?_
  refine qg_M_X7_read hM hP fl_X7_22 dX7_clears_59 ?_
  refine lv_bipush (v := 100) hx hb dX7_clears_62 (by decide) ?_
  refine lv_iconst (v := 1) hx hb dX7_clears_64 (by decide) ?_
  refine qs_M_X7_read hM hP hD hS (by decide) dX7_clears_65 (fun x13 H locs ex13 hP hD hS => ?_)
  have hF := q_let_e hF ex13
  refine lv_aload_n hx hb dX7_clears_66 rfl (lv_at hl 0 rfl) ?_
  refine lv_iconst (v := 4) hx hb dX7_clears_67 (by decide) ?_
  refine qp_M_X7_readNoises hM hP hD hS fl_X7_45 dX7_clears_68 (fun x14 H locs ex14 hP hD hS => ?_)
  have hF := q_let_e hF ex14
  refine lv_aload_n hx hb dX7_clears_71 rfl (lv_at hl 0 rfl) ?_
  refine qg_M_X7_readNoise hM hP fl_X7_25 dX7_clears_72 ?_
  refine lv_iconst (v := 0) hx hb dX7_clears_75 (by decide) ?_
  refine lv_iconst (v := 4) hx hb dX7_clears_76 (by decide) ?_
  refine qs_M_X7_readNoise hM hP hD hS (by decide) dX7_clears_77 (fun x15 H locs ex15 hP hD hS => ?_)
  have hF := q_let_e hF ex15
  refine lv_aload_n hx hb dX7_clears_78 rfl (lv_at hl 0 rfl) ?_
  refine qg_M_X7_readNoise hM hP fl_X7_25 dX7_clears_79 ?_
  refine lv_iconst (v := 1) hx hb dX7_clears_82 (by decide) ?_
  refine lv_iconst (v := 2) hx hb dX7_clears_83 (by decide) ?_
  refine qs_M_X7_readNoise hM hP hD hS (by decide) dX7_clears_84 (fun x16 H locs ex16 hP hD hS => ?_)
  have hF := q_let_e hF ex16
  refine lv_aload_n hx hb dX7_clears_85 rfl (lv_at hl 0 rfl) ?_
  refine qg_M_X7_readNoise hM hP fl_X7_25 dX7_clears_86 ?_
  refine lv_iconst (v := 2) hx hb dX7_clears_89 (by decide) ?_
  refine lv_iconst (v := 1) hx hb dX7_clears_90 (by decide) ?_
  refine qs_M_X7_readNoise hM hP hD hS (by decide) dX7_clears_91 (fun x17 H locs ex17 hP hD hS => ?_)
  have hF := q_let_e hF ex17
  refine lv_aload_n hx hb dX7_clears_92 rfl (lv_at hl 0 rfl) ?_
  refine qg_M_X7_readNoise hM hP fl_X7_25 dX7_clears_93 ?_
  refine lv_iconst (v := 3) hx hb dX7_clears_96 (by decide) ?_
  refine lv_iconst (v := 1) hx hb dX7_clears_97 (by decide) ?_
  refine qs_M_X7_readNoise hM hP hD hS (by decide) dX7_clears_98 (fun x18 H locs ex18 hP hD hS => ?_)
  have hF := q_let_e hF ex18
  exact hRet _ _ _ _ _ hF dX7_clears_99 hP hD hS
theorem ky_X7_takes : q_Y yX7_takes cX7_takes 2 none 0 := ⟨cw_X7_takes, im_X7_takes, se_X7_takes, in_X7, by decide +kernel⟩
set_option maxHeartbeats 4000000 in
set_option maxRecDepth 100000 in
theorem c_X7_takes (l : Launch) (D : va_G) (cI cJ : ClassId) (g : Nat → Nat) (ad : Nat → Nat) (x : IS) (res : IS) (hF : f_X7_takes x = some res) : q_Mv l yX7_takes cX7_takes 2 { frames := 0, cells := 0, slots := 0, locals := 0 } D cI cJ g (q_WM cI ad x) [.ref (ad 0)] (q_WM cI ad res) := by
  refine q_ofv (res := res) (fun u : IS => (q_WM cI ad u)) pl_X7 (Nat.le_of_ble_eq_true rfl) ?_
  intro p e s m args below meth c A Q hM hRet ls hl hP hD hS
  have hx := hM.1.1
  have hb := hM.1.2.1
  have hl : lv_has ls 2 [(0, .ref (ad 0))] := hl
  unfold f_X7_takes at hF
  refine lv_aload_n hx hb dX7_takes_0 rfl (lv_at hl 0 rfl) ?_
  refine lv_aload_n hx hb dX7_takes_1 rfl (lv_at hl 0 rfl) ?_
  refine qg_M_X7_readCells hM hP fl_X7_41 dX7_takes_2 ?_
  refine qp_M_X7_cells hM hP hD hS fl_X7_48 dX7_takes_5 (fun x1 H locs ex1 hP hD hS => ?_)
  have hF := q_let_e hF ex1
  refine lv_aload_n hx hb dX7_takes_8 rfl (lv_at hl 0 rfl) ?_
  refine lv_aload_n hx hb dX7_takes_9 rfl (lv_at hl 0 rfl) ?_
  refine qg_M_X7_readNoises hM hP fl_X7_45 dX7_takes_10 ?_
  refine qp_M_X7_noises hM hP hD hS fl_X7_51 dX7_takes_13 (fun x2 H locs ex2 hP hD hS => ?_)
  have hF := q_let_e hF ex2
  refine lv_iconst (v := 0) hx hb dX7_takes_16 (by decide) ?_
  refine lv_istore_n (lv' := [(1, .int (0 : Int32)), (0, .ref (ad 0))]) hx hb dX7_takes_17 rfl hl (by decide) rfl (fun ls hl => ?_)
  have L18 : ∀ (k : IS → Option (IS)) (n : Nat) (v3 : Int32) (x4 : IS) (H : Heap) (locs : List Loc) (ls : Array Slot), lv_has ls 2 [(0, .ref (ad 0)), (1, .int v3)] → va_P D vwCl (q_WM cI ad x4) H → va_D A (q_WM cI ad x4) → va_S A s.heap H locs → (∀ (x5 : IS) (H : Heap) (locs : List Loc) (ls : Array Slot), lv_has ls 2 [(0, .ref (ad 0))] → va_P D vwCl (q_WM cI ad x5) H → va_D A (q_WM cI ad x5) → va_S A s.heap H locs → k x5 = some res → W p l e { frames := 0, cells := 0, slots := 0, locals := 0 } s m args below meth c H locs 0 0 Q (F0 m 54 ls [])) → f_X7_takes_L18 k n v3 x4 = some res → W p l e { frames := 0, cells := 0, slots := 0, locals := 0 } s m args below meth c H locs 0 0 Q (F0 m 18 ls []) := by
    intro k n
    induction n with
    | zero => intro v3 x4 H locs ls hl hP hD hS hk hF; exact q_no hF
    | succ n ih =>
      intro v3 x4 H locs ls hl hP hD hS hk hF
      have hF : f_X7_takes_L18F k (f_X7_takes_L18 k n) v3 x4 = some res := hF
      unfold f_X7_takes_L18F at hF
      refine lv_iload_n hx hb dX7_takes_18 rfl (lv_at hl 1 rfl) ?_
      refine lv_bipush (v := 8) hx hb dX7_takes_19 (by decide) ?_
      refine lv_icmp_ge (tgt := 54) hx hb dX7_takes_21 (by decide) (fun c6 => ?_) (fun c6 => ?_)
      · have hF := q_it hF c6
        exact hk _ _ _ _ (lv_sub hl [0] rfl) hP hD hS hF
      · have hF := q_ie hF c6
        refine lv_aload_n hx hb dX7_takes_24 rfl (lv_at hl 0 rfl) ?_
        refine qg_M_X7_noise hM hP fl_X7_13 dX7_takes_25 ?_
        refine lv_iload_n hx hb dX7_takes_28 rfl (lv_at hl 1 rfl) ?_
        refine lv_iload_n hx hb dX7_takes_29 rfl (lv_at hl 1 rfl) ?_
        refine lv_aload_n hx hb dX7_takes_30 rfl (lv_at hl 0 rfl) ?_
        refine qg_M_X7_noises hM hP fl_X7_51 dX7_takes_31 ?_
        obtain ⟨J47, hJ47, hF⟩ := q_jn_e hF
        have K47 : ∀ (t9 : Int32) (H : Heap) (locs : List Loc) (ls : Array Slot), lv_has ls 2 [(0, .ref (ad 0)), (1, .int v3)] → va_P D vwCl (q_WM cI ad x4) H → va_D A (q_WM cI ad x4) → va_S A s.heap H locs → J47 t9 = some res → W p l e { frames := 0, cells := 0, slots := 0, locals := 0 } s m args below meth c H locs 0 0 Q (F0 m 47 ls [.int t9, .int v3, .ref (ad 2)]) := by
          clear hF; intro t9 H locs ls hl hP hD hS hF
          rw [hJ47] at hF
          try dsimp only at hF
          obtain ⟨h10, hF⟩ := q_gd_e hF
          refine qs_M_X7_noise hM hP hD hS h10 dX7_takes_47 (fun x11 H locs ex11 hP hD hS => ?_)
          have hF := q_let_e hF ex11
          obtain ⟨v12, ev12⟩ : ∃ y : Int32, y = v3 + 1 := ⟨_, rfl⟩
          have hF := q_let_e hF ev12
          refine lv_iinc (v := v12) (lv' := [(1, .int v12), (0, .ref (ad 0))]) hx hb dX7_takes_48 hl (k := 1) rfl (by rw [ev12]; rfl) (by decide) rfl (fun ls hl => ?_)
          refine lv_goto (tgt := 18) hx hb dX7_takes_51 (by decide) ?_
          exact ih _ _ _ _ _ (lv_sub hl [1, 0] rfl) hP hD hS hk hF
        refine lv_icmp_ge (tgt := 46) hx hb dX7_takes_34 (by decide) (fun c7 => ?_) (fun c7 => ?_)
        · have hF := q_it hF c7
          refine lv_iconst (v := 0) hx hb dX7_takes_46 (by decide) ?_
          exact K47 _ _ _ _ (lv_sub hl [0, 1] rfl) hP hD hS hF
        · have hF := q_ie hF c7
          refine lv_aload_n hx hb dX7_takes_37 rfl (lv_at hl 0 rfl) ?_
          refine qg_M_X7_readNoise hM hP fl_X7_25 dX7_takes_38 ?_
          refine lv_iload_n hx hb dX7_takes_41 rfl (lv_at hl 1 rfl) ?_
          obtain ⟨h8, hF⟩ := q_gd_e hF
          refine ql_M_X7_readNoise hM hP h8 dX7_takes_42 ?_
          refine lv_goto (tgt := 47) hx hb dX7_takes_43 (by decide) ?_
          exact K47 _ _ _ _ (lv_sub hl [0, 1] rfl) hP hD hS hF
  refine L18 _ _ _ _ _ _ _ (lv_sub hl [1, 0] rfl) hP hD hS ?_ hF
  clear hF
  intro x5 H locs ls hl hP hD hS hF
  refine lv_iconst (v := 0) hx hb dX7_takes_54 (by decide) ?_
  refine lv_istore_n (lv' := [(1, .int (0 : Int32)), (0, .ref (ad 0))]) hx hb dX7_takes_55 rfl hl (by decide) rfl (fun ls hl => ?_)
  have L56 : ∀ (k : IS → Option (IS)) (n : Nat) (v13 : Int32) (x14 : IS) (H : Heap) (locs : List Loc) (ls : Array Slot), lv_has ls 2 [(0, .ref (ad 0)), (1, .int v13)] → va_P D vwCl (q_WM cI ad x14) H → va_D A (q_WM cI ad x14) → va_S A s.heap H locs → (∀ (x15 : IS) (H : Heap) (locs : List Loc) (ls : Array Slot), lv_has ls 2 [(0, .ref (ad 0))] → va_P D vwCl (q_WM cI ad x15) H → va_D A (q_WM cI ad x15) → va_S A s.heap H locs → k x15 = some res → W p l e { frames := 0, cells := 0, slots := 0, locals := 0 } s m args below meth c H locs 0 0 Q (F0 m 80 ls [])) → f_X7_takes_L56 k n v13 x14 = some res → W p l e { frames := 0, cells := 0, slots := 0, locals := 0 } s m args below meth c H locs 0 0 Q (F0 m 56 ls []) := by
    intro k n
    induction n with
    | zero => intro v13 x14 H locs ls hl hP hD hS hk hF; exact q_no hF
    | succ n ih =>
      intro v13 x14 H locs ls hl hP hD hS hk hF
      have hF : f_X7_takes_L56F k (f_X7_takes_L56 k n) v13 x14 = some res := hF
      unfold f_X7_takes_L56F at hF
      refine lv_iload_n hx hb dX7_takes_56 rfl (lv_at hl 1 rfl) ?_
      refine lv_bipush (v := 102) hx hb dX7_takes_57 (by decide) ?_
      refine lv_icmp_ge (tgt := 80) hx hb dX7_takes_59 (by decide) (fun c16 => ?_) (fun c16 => ?_)
      · have hF := q_it hF c16
        exact hk _ _ _ _ (lv_sub hl [0] rfl) hP hD hS hF
      · have hF := q_ie hF c16
        refine lv_aload_n hx hb dX7_takes_62 rfl (lv_at hl 0 rfl) ?_
        refine qg_M_X7_now hM hP fl_X7_16 dX7_takes_63 ?_
        refine lv_iload_n hx hb dX7_takes_66 rfl (lv_at hl 1 rfl) ?_
        refine lv_aload_n hx hb dX7_takes_67 rfl (lv_at hl 0 rfl) ?_
        refine qg_M_X7_read hM hP fl_X7_22 dX7_takes_68 ?_
        refine lv_iload_n hx hb dX7_takes_71 rfl (lv_at hl 1 rfl) ?_
        obtain ⟨h17, hF⟩ := q_gd_e hF
        refine ql_M_X7_read hM hP h17 dX7_takes_72 ?_
        obtain ⟨h18, hF⟩ := q_gd_e hF
        refine qs_M_X7_now hM hP hD hS h18 dX7_takes_73 (fun x19 H locs ex19 hP hD hS => ?_)
        have hF := q_let_e hF ex19
        obtain ⟨v20, ev20⟩ : ∃ y : Int32, y = v13 + 1 := ⟨_, rfl⟩
        have hF := q_let_e hF ev20
        refine lv_iinc (v := v20) (lv' := [(1, .int v20), (0, .ref (ad 0))]) hx hb dX7_takes_74 hl (k := 1) rfl (by rw [ev20]; rfl) (by decide) rfl (fun ls hl => ?_)
        refine lv_goto (tgt := 56) hx hb dX7_takes_77 (by decide) ?_
        exact ih _ _ _ _ _ (lv_sub hl [1, 0] rfl) hP hD hS hk hF
  refine L56 _ _ _ _ _ _ _ (lv_sub hl [1, 0] rfl) hP hD hS ?_ hF
  clear hF
  intro x15 H locs ls hl hP hD hS hF
  refine lv_aload_n hx hb dX7_takes_80 rfl (lv_at hl 0 rfl) ?_
  refine lv_iconst (v := 0) hx hb dX7_takes_81 (by decide) ?_
  refine qp_M_X7_changes hM hP hD hS fl_X7_54 dX7_takes_82 (fun x21 H locs ex21 hP hD hS => ?_)
  have hF := q_let_e hF ex21
  exact hRet _ _ _ _ _ hF dX7_takes_85 hP hD hS
theorem ky_X7_letterAt : q_Y yX7_letterAt cX7_letterAt 2 (some .int) 1 := ⟨cw_X7_letterAt, im_X7_letterAt, se_X7_letterAt, in_X7, by decide +kernel⟩
set_option maxHeartbeats 4000000 in
set_option maxRecDepth 100000 in
theorem c_X7_letterAt (l : Launch) (D : va_G) (cI cJ : ClassId) (g : Nat → Nat) (ad : Nat → Nat) (x : IS) (a1 : Int32) (res : Int32) (hF : f_X7_letterAt x a1 = some res) : q_Mi l yX7_letterAt cX7_letterAt 2 .int { frames := 0, cells := 0, slots := 0, locals := 0 } D cI cJ g (q_WM cI ad x) [.ref (ad 0), .int a1] (res) (q_WM cI ad x) := by
  refine q_ofi (res := res) (fun u : Int32 => u) (fun _ : Int32 => (q_WM cI ad x)) pl_X7 (Nat.le_of_ble_eq_true rfl) ?_
  intro p e s m args below meth c A Q hM hRet ls hl hP hD hS
  have hx := hM.1.1
  have hb := hM.1.2.1
  have hl : lv_has ls 2 [(0, .ref (ad 0)), (1, .int a1)] := hl
  unfold f_X7_letterAt at hF
  refine lv_iload_n hx hb dX7_letterAt_0 rfl (lv_at hl 1 rfl) ?_
  refine lv_aload_n hx hb dX7_letterAt_1 rfl (lv_at hl 0 rfl) ?_
  refine qg_M_X7_length hM hP fl_X7_57 dX7_letterAt_2 ?_
  refine lv_icmp_ge (tgt := 17) hx hb dX7_letterAt_5 (by decide) (fun c1 => ?_) (fun c1 => ?_)
  · have hF := q_it hF c1
    refine lv_iconst (v := 0) hx hb dX7_letterAt_17 (by decide) ?_
    exact hRet (0 : Int32) _ _ _ _ hF rfl dX7_letterAt_18 hP hD hS
  · have hF := q_ie hF c1
    refine lv_aload_n hx hb dX7_letterAt_8 rfl (lv_at hl 0 rfl) ?_
    refine qg_M_X7_text hM hP fl_X7_7 dX7_letterAt_9 ?_
    refine lv_iload_n hx hb dX7_letterAt_12 rfl (lv_at hl 1 rfl) ?_
    obtain ⟨h2, hF⟩ := q_gd_e hF
    refine ql_M_X7_text hM hP h2 dX7_letterAt_13 ?_
    refine lv_goto (tgt := 18) hx hb dX7_letterAt_14 (by decide) ?_
    exact hRet (x 1 a1.toNatClampNeg) _ _ _ _ hF rfl dX7_letterAt_18 hP hD hS
theorem ky_X7_number : q_Y yX7_number cX7_number 3 (some .int) 1 := ⟨cw_X7_number, im_X7_number, se_X7_number, in_X7, by decide +kernel⟩
set_option maxHeartbeats 4000000 in
set_option maxRecDepth 100000 in
theorem c_X7_number (l : Launch) (D : va_G) (cI cJ : ClassId) (g : Nat → Nat) (ad : Nat → Nat) (x : IS) (a1 : Int32) (res : Int32 × IS) (hF : f_X7_number x a1 = some res) : q_Mi l yX7_number cX7_number 3 .int { frames := 1, cells := 0, slots := 0, locals := 21 } D cI cJ g (q_WM cI ad x) [.ref (ad 0), .int a1] (res.1) (q_WM cI ad (res.2)) := by
  refine q_ofi (res := res) (fun u : Int32 × IS => u.1) (fun u : Int32 × IS => (q_WM cI ad (u.2))) pl_X7 (Nat.le_of_ble_eq_true rfl) ?_
  intro p e s m args below meth c A Q hM hRet ls hl hP hD hS
  have hx := hM.1.1
  have hb := hM.1.2.1
  have hl : lv_has ls 3 [(0, .ref (ad 0)), (1, .int a1)] := hl
  unfold f_X7_number at hF
  refine lv_iconst (v := -1) hx hb dX7_number_0 (by decide) ?_
  refine lv_istore_n (lv' := [(2, .int (-1 : Int32)), (0, .ref (ad 0)), (1, .int a1)]) hx hb dX7_number_1 rfl hl (by decide) rfl (fun ls hl => ?_)
  refine lv_aload_n hx hb dX7_number_2 rfl (lv_at hl 1 rfl) ?_
  refine lv_iload_n hx hb dX7_number_3 rfl (lv_at hl 2 rfl) ?_
  refine qp_M_X7_ends hM hP hD hS fl_X7_60 dX7_number_4 (fun x1 H locs ex1 hP hD hS => ?_)
  have hF := q_let_e hF ex1
  have L7 : ∀ (k : Int32 → IS → Option (Int32 × IS)) (n : Nat) (v2 : Int32) (x4 : IS) (H : Heap) (locs : List Loc) (ls : Array Slot), lv_has ls 3 [(0, .ref (ad 0)), (1, .int a1), (2, .int v2)] → va_P D vwCl (q_WM cI ad x4) H → va_D A (q_WM cI ad x4) → va_S A s.heap H locs → (∀ (e3 : Int32) (x5 : IS) (H : Heap) (locs : List Loc) (ls : Array Slot), lv_has ls 3 [(2, .int e3)] → va_P D vwCl (q_WM cI ad x5) H → va_D A (q_WM cI ad x5) → va_S A s.heap H locs → k e3 x5 = some res → W p l e { frames := 1, cells := 0, slots := 0, locals := 21 } s m args below meth c H locs 0 0 Q (F0 m 82 ls [])) → f_X7_number_L7 a1 k n v2 x4 = some res → W p l e { frames := 1, cells := 0, slots := 0, locals := 21 } s m args below meth c H locs 0 0 Q (F0 m 7 ls []) := by
    intro k n
    induction n with
    | zero => intro v2 x4 H locs ls hl hP hD hS hk hF; exact q_no hF
    | succ n ih =>
      intro v2 x4 H locs ls hl hP hD hS hk hF
      have hF : f_X7_number_L7F a1 k (f_X7_number_L7 a1 k n) v2 x4 = some res := hF
      unfold f_X7_number_L7F at hF
      refine lv_aload_n hx hb dX7_number_7 rfl (lv_at hl 0 rfl) ?_
      refine qg_M_X7_ends hM hP fl_X7_60 dX7_number_8 ?_
      refine lv_iload_n hx hb dX7_number_11 rfl (lv_at hl 1 rfl) ?_
      refine lv_iconst (v := 2) hx hb dX7_number_12 (by decide) ?_
      refine lv_iadd hx hb dX7_number_13 ?_
      refine lv_icmp_ge (tgt := 82) hx hb dX7_number_14 (by decide) (fun c6 => ?_) (fun c6 => ?_)
      · have hF := q_it hF c6
        exact hk _ _ _ _ _ (lv_sub hl [2] rfl) hP hD hS hF
      · have hF := q_ie hF c6
        refine lv_aload_n hx hb dX7_number_17 rfl (lv_at hl 0 rfl) ?_
        refine lv_aload_n hx hb dX7_number_18 rfl (lv_at hl 0 rfl) ?_
        refine qg_M_X7_ends hM hP fl_X7_60 dX7_number_19 ?_
        obtain ⟨r7, hC8, hF⟩ := q_b1_e hF
        refine q_calli hM (c_X7_letterAt l D cI cJ g ad _ _ _ hC8) hP hD hS ky_X7_letterAt ml_X7_63 rfl rfl ⟨Nat.le_of_ble_eq_true rfl, Nat.le_of_ble_eq_true rfl⟩ 0 rfl rfl rfl hl.1 rfl (Nat.le_of_ble_eq_true rfl) ⟨Nat.zero_le _, Nat.zero_le _⟩ dX7_number_22 (fun H locs hz9 hP hD hS => ?_)
        refine lv_bipush (v := 48) hx hb dX7_number_25 (by decide) ?_
        refine lv_icmp_lt (tgt := 82) hx hb dX7_number_27 (by decide) (fun c10 => ?_) (fun c10 => ?_)
        · have hF := q_it hF c10
          exact hk _ _ _ _ _ (lv_sub hl [2] rfl) hP hD hS hF
        · have hF := q_ie hF c10
          refine lv_aload_n hx hb dX7_number_30 rfl (lv_at hl 0 rfl) ?_
          refine lv_aload_n hx hb dX7_number_31 rfl (lv_at hl 0 rfl) ?_
          refine qg_M_X7_ends hM hP fl_X7_60 dX7_number_32 ?_
          obtain ⟨r11, hC12, hF⟩ := q_b1_e hF
          refine q_calli hM (c_X7_letterAt l D cI cJ g ad _ _ _ hC12) hP hD hS ky_X7_letterAt ml_X7_63 rfl rfl ⟨Nat.le_of_ble_eq_true rfl, Nat.le_of_ble_eq_true rfl⟩ 0 rfl rfl rfl hl.1 rfl (Nat.le_of_ble_eq_true rfl) ⟨Nat.zero_le _, Nat.zero_le _⟩ dX7_number_35 (fun H locs hz13 hP hD hS => ?_)
          refine lv_bipush (v := 57) hx hb dX7_number_38 (by decide) ?_
          refine lv_icmp_gt (tgt := 82) hx hb dX7_number_40 (by decide) (fun c14 => ?_) (fun c14 => ?_)
          · have hF := q_it hF c14
            exact hk _ _ _ _ _ (lv_sub hl [2] rfl) hP hD hS hF
          · have hF := q_ie hF c14
            refine lv_bipush (v := 10) hx hb dX7_number_43 (by decide) ?_
            refine lv_iload_n hx hb dX7_number_45 rfl (lv_at hl 2 rfl) ?_
            obtain ⟨J54, hJ54, hF⟩ := q_jn_e hF
            have K54 : ∀ (t16 : Int32) (H : Heap) (locs : List Loc) (ls : Array Slot), lv_has ls 3 [(0, .ref (ad 0)), (1, .int a1)] → va_P D vwCl (q_WM cI ad x4) H → va_D A (q_WM cI ad x4) → va_S A s.heap H locs → J54 t16 = some res → W p l e { frames := 1, cells := 0, slots := 0, locals := 21 } s m args below meth c H locs 0 0 Q (F0 m 54 ls [.int t16, .int (10 : Int32)]) := by
              clear hF; intro t16 H locs ls hl hP hD hS hF
              rw [hJ54] at hF
              try dsimp only at hF
              refine lv_imul hx hb dX7_number_54 ?_
              refine lv_aload_n hx hb dX7_number_55 rfl (lv_at hl 0 rfl) ?_
              refine qg_M_X7_text hM hP fl_X7_7 dX7_number_56 ?_
              refine lv_aload_n hx hb dX7_number_59 rfl (lv_at hl 0 rfl) ?_
              refine qg_M_X7_ends hM hP fl_X7_60 dX7_number_60 ?_
              obtain ⟨h17, hF⟩ := q_gd_e hF
              refine ql_M_X7_text hM hP h17 dX7_number_63 ?_
              refine lv_iadd hx hb dX7_number_64 ?_
              refine lv_bipush (v := 48) hx hb dX7_number_65 (by decide) ?_
              refine lv_isub hx hb dX7_number_67 ?_
              refine lv_topi (fun v18 ev18 => ?_)
              have hF := q_let_e hF ev18
              refine lv_istore_n (lv' := [(2, .int v18), (0, .ref (ad 0)), (1, .int a1)]) hx hb dX7_number_68 rfl hl (by decide) rfl (fun ls hl => ?_)
              refine lv_aload_n hx hb dX7_number_69 rfl (lv_at hl 1 rfl) ?_
              refine lv_dup hx hb dX7_number_70 rfl ?_
              refine qg_M_X7_ends hM hP fl_X7_60 dX7_number_71 ?_
              refine lv_iconst (v := 1) hx hb dX7_number_74 (by decide) ?_
              refine lv_iadd hx hb dX7_number_75 ?_
              refine qp_M_X7_ends hM hP hD hS fl_X7_60 dX7_number_76 (fun x19 H locs ex19 hP hD hS => ?_)
              have hF := q_let_e hF ex19
              refine lv_goto (tgt := 7) hx hb dX7_number_79 (by decide) ?_
              exact ih _ _ _ _ _ (lv_sub hl [1, 2, 0] rfl) hP hD hS hk hF
            refine lv_if_ge (tgt := 53) hx hb dX7_number_46 (by decide) (fun c15 => ?_) (fun c15 => ?_)
            · have hF := q_it hF c15
              refine lv_iload_n hx hb dX7_number_53 rfl (lv_at hl 2 rfl) ?_
              exact K54 _ _ _ _ (lv_sub hl [0, 1] rfl) hP hD hS hF
            · have hF := q_ie hF c15
              refine lv_iconst (v := 0) hx hb dX7_number_49 (by decide) ?_
              refine lv_goto (tgt := 54) hx hb dX7_number_50 (by decide) ?_
              exact K54 _ _ _ _ (lv_sub hl [0, 1] rfl) hP hD hS hF
  refine L7 _ _ _ _ _ _ _ (lv_sub hl [1, 2, 0] rfl) hP hD hS ?_ hF
  clear hF
  intro e3 x5 H locs ls hl hP hD hS hF
  refine lv_iload_n hx hb dX7_number_82 rfl (lv_at hl 0 rfl) ?_
  exact hRet (e3, x5) _ _ _ _ hF rfl dX7_number_83 hP hD hS
theorem ky_X7_isWord : q_Y yX7_isWord cX7_isWord 6 (some .boolean) 5 := ⟨cw_X7_isWord, im_X7_isWord, se_X7_isWord, in_X7, by decide +kernel⟩
set_option maxHeartbeats 4000000 in
set_option maxRecDepth 100000 in
theorem c_X7_isWord (l : Launch) (D : va_G) (cI cJ : ClassId) (g : Nat → Nat) (ad : Nat → Nat) (x : IS) (a1 : Int32) (a2 : Int32) (a3 : Int32) (a4 : Int32) (a5 : Int32) (res : Int32) (hF : f_X7_isWord x a1 a2 a3 a4 a5 = some res) : q_Mi l yX7_isWord cX7_isWord 6 .boolean { frames := 1, cells := 0, slots := 0, locals := 21 } D cI cJ g (q_WM cI ad x) [.ref (ad 0), .int a1, .int a2, .int a3, .int a4, .int a5] (res) (q_WM cI ad x) := by
  refine q_ofi (res := res) (fun u : Int32 => u) (fun _ : Int32 => (q_WM cI ad x)) pl_X7 (Nat.le_of_ble_eq_true rfl) ?_
  intro p e s m args below meth c A Q hM hRet ls hl hP hD hS
  have hx := hM.1.1
  have hb := hM.1.2.1
  have hl : lv_has ls 6 [(0, .ref (ad 0)), (1, .int a1), (2, .int a2), (3, .int a3), (4, .int a4), (5, .int a5)] := hl
  unfold f_X7_isWord at hF
  refine lv_aload_n hx hb dX7_isWord_0 rfl (lv_at hl 0 rfl) ?_
  refine lv_iload_n hx hb dX7_isWord_1 rfl (lv_at hl 1 rfl) ?_
  obtain ⟨r1, hC2, hF⟩ := q_b1_e hF
  refine q_calli hM (c_X7_letterAt l D cI cJ g ad _ _ _ hC2) hP hD hS ky_X7_letterAt ml_X7_63 rfl rfl ⟨Nat.le_of_ble_eq_true rfl, Nat.le_of_ble_eq_true rfl⟩ 0 rfl rfl rfl hl.1 rfl (Nat.le_of_ble_eq_true rfl) ⟨Nat.zero_le _, Nat.zero_le _⟩ dX7_isWord_2 (fun H locs hz3 hP hD hS => ?_)
  refine lv_iload_n hx hb dX7_isWord_5 rfl (lv_at hl 2 rfl) ?_
  refine lv_icmp_ne (tgt := 48) hx hb dX7_isWord_6 (by decide) (fun c4 => ?_) (fun c4 => ?_)
  · have hF := q_ie hF c4
    refine lv_iconst (v := 0) hx hb dX7_isWord_48 (by decide) ?_
    exact hRet (0 : Int32) _ _ _ _ hF narrow_b0 dX7_isWord_49 hP hD hS
  · have hF := q_it hF c4
    refine lv_aload_n hx hb dX7_isWord_9 rfl (lv_at hl 0 rfl) ?_
    refine lv_iload_n hx hb dX7_isWord_10 rfl (lv_at hl 1 rfl) ?_
    refine lv_iconst (v := 1) hx hb dX7_isWord_11 (by decide) ?_
    refine lv_iadd hx hb dX7_isWord_12 ?_
    obtain ⟨r5, hC6, hF⟩ := q_b1_e hF
    refine q_calli hM (c_X7_letterAt l D cI cJ g ad _ _ _ hC6) hP hD hS ky_X7_letterAt ml_X7_63 rfl rfl ⟨Nat.le_of_ble_eq_true rfl, Nat.le_of_ble_eq_true rfl⟩ 0 rfl rfl rfl hl.1 rfl (Nat.le_of_ble_eq_true rfl) ⟨Nat.zero_le _, Nat.zero_le _⟩ dX7_isWord_13 (fun H locs hz7 hP hD hS => ?_)
    refine lv_iload_n hx hb dX7_isWord_16 rfl (lv_at hl 3 rfl) ?_
    refine lv_icmp_ne (tgt := 48) hx hb dX7_isWord_17 (by decide) (fun c8 => ?_) (fun c8 => ?_)
    · have hF := q_ie hF c8
      refine lv_iconst (v := 0) hx hb dX7_isWord_48 (by decide) ?_
      exact hRet (0 : Int32) _ _ _ _ hF narrow_b0 dX7_isWord_49 hP hD hS
    · have hF := q_it hF c8
      refine lv_aload_n hx hb dX7_isWord_20 rfl (lv_at hl 0 rfl) ?_
      refine lv_iload_n hx hb dX7_isWord_21 rfl (lv_at hl 1 rfl) ?_
      refine lv_iconst (v := 2) hx hb dX7_isWord_22 (by decide) ?_
      refine lv_iadd hx hb dX7_isWord_23 ?_
      obtain ⟨r9, hC10, hF⟩ := q_b1_e hF
      refine q_calli hM (c_X7_letterAt l D cI cJ g ad _ _ _ hC10) hP hD hS ky_X7_letterAt ml_X7_63 rfl rfl ⟨Nat.le_of_ble_eq_true rfl, Nat.le_of_ble_eq_true rfl⟩ 0 rfl rfl rfl hl.1 rfl (Nat.le_of_ble_eq_true rfl) ⟨Nat.zero_le _, Nat.zero_le _⟩ dX7_isWord_24 (fun H locs hz11 hP hD hS => ?_)
      refine lv_iload hx hb dX7_isWord_27 (lv_at hl 4 rfl) ?_
      refine lv_icmp_ne (tgt := 48) hx hb dX7_isWord_29 (by decide) (fun c12 => ?_) (fun c12 => ?_)
      · have hF := q_ie hF c12
        refine lv_iconst (v := 0) hx hb dX7_isWord_48 (by decide) ?_
        exact hRet (0 : Int32) _ _ _ _ hF narrow_b0 dX7_isWord_49 hP hD hS
      · have hF := q_it hF c12
        refine lv_aload_n hx hb dX7_isWord_32 rfl (lv_at hl 0 rfl) ?_
        refine lv_iload_n hx hb dX7_isWord_33 rfl (lv_at hl 1 rfl) ?_
        refine lv_iconst (v := 3) hx hb dX7_isWord_34 (by decide) ?_
        refine lv_iadd hx hb dX7_isWord_35 ?_
        obtain ⟨r13, hC14, hF⟩ := q_b1_e hF
        refine q_calli hM (c_X7_letterAt l D cI cJ g ad _ _ _ hC14) hP hD hS ky_X7_letterAt ml_X7_63 rfl rfl ⟨Nat.le_of_ble_eq_true rfl, Nat.le_of_ble_eq_true rfl⟩ 0 rfl rfl rfl hl.1 rfl (Nat.le_of_ble_eq_true rfl) ⟨Nat.zero_le _, Nat.zero_le _⟩ dX7_isWord_36 (fun H locs hz15 hP hD hS => ?_)
        refine lv_iload hx hb dX7_isWord_39 (lv_at hl 5 rfl) ?_
        refine lv_icmp_ne (tgt := 48) hx hb dX7_isWord_41 (by decide) (fun c16 => ?_) (fun c16 => ?_)
        · have hF := q_ie hF c16
          refine lv_iconst (v := 0) hx hb dX7_isWord_48 (by decide) ?_
          exact hRet (0 : Int32) _ _ _ _ hF narrow_b0 dX7_isWord_49 hP hD hS
        · have hF := q_it hF c16
          refine lv_iconst (v := 1) hx hb dX7_isWord_44 (by decide) ?_
          refine lv_goto (tgt := 49) hx hb dX7_isWord_45 (by decide) ?_
          exact hRet (1 : Int32) _ _ _ _ hF narrow_b1 dX7_isWord_49 hP hD hS
theorem ky_X7_readsCells : q_Y yX7_readsCells cX7_readsCells 5 (some .boolean) 1 := ⟨cw_X7_readsCells, im_X7_readsCells, se_X7_readsCells, in_X7, by decide +kernel⟩
set_option maxHeartbeats 4000000 in
set_option maxRecDepth 100000 in
theorem c_X7_readsCells (l : Launch) (D : va_G) (cI cJ : ClassId) (g : Nat → Nat) (ad : Nat → Nat) (x : IS) (a1 : Int32) (res : Int32 × IS) (hF : f_X7_readsCells x a1 = some res) : q_Mi l yX7_readsCells cX7_readsCells 5 .boolean { frames := 2, cells := 0, slots := 0, locals := 43 } D cI cJ g (q_WM cI ad x) [.ref (ad 0), .int a1] (res.1) (q_WM cI ad (res.2)) := by
  refine q_ofi (res := res) (fun u : Int32 × IS => u.1) (fun u : Int32 × IS => (q_WM cI ad (u.2))) pl_X7 (Nat.le_of_ble_eq_true rfl) ?_
  intro p e s m args below meth c A Q hM hRet ls hl hP hD hS
  have hx := hM.1.1
  have hb := hM.1.2.1
  have hl : lv_has ls 5 [(0, .ref (ad 0)), (1, .int a1)] := hl
  unfold f_X7_readsCells at hF
  refine lv_iload_n hx hb dX7_readsCells_0 rfl (lv_at hl 1 rfl) ?_
  refine lv_istore_n (lv' := [(2, .int a1), (0, .ref (ad 0)), (1, .int a1)]) hx hb dX7_readsCells_1 rfl hl (by decide) rfl (fun ls hl => ?_)
  refine lv_iconst (v := 1) hx hb dX7_readsCells_2 (by decide) ?_
  refine lv_istore_n (lv' := [(3, .int (1 : Int32)), (2, .int a1), (0, .ref (ad 0)), (1, .int a1)]) hx hb dX7_readsCells_3 rfl hl (by decide) rfl (fun ls hl => ?_)
  have L4 : ∀ (k : IS → Option (Int32 × IS)) (n : Nat) (v1 : Int32) (v2 : Int32) (x3 : IS) (H : Heap) (locs : List Loc) (ls : Array Slot), lv_has ls 5 [(0, .ref (ad 0)), (2, .int v1), (3, .int v2)] → va_P D vwCl (q_WM cI ad x3) H → va_D A (q_WM cI ad x3) → va_S A s.heap H locs → (∀ (x4 : IS) (H : Heap) (locs : List Loc) (ls : Array Slot), lv_has ls 5 [] → va_P D vwCl (q_WM cI ad x4) H → va_D A (q_WM cI ad x4) → va_S A s.heap H locs → k x4 = some res → W p l e { frames := 2, cells := 0, slots := 0, locals := 43 } s m args below meth c H locs 0 0 Q (F0 m 81 ls [])) → f_X7_readsCells_L4 k n v1 v2 x3 = some res → W p l e { frames := 2, cells := 0, slots := 0, locals := 43 } s m args below meth c H locs 0 0 Q (F0 m 4 ls []) := by
    intro k n
    induction n with
    | zero => intro v1 v2 x3 H locs ls hl hP hD hS hk hF; exact q_no hF
    | succ n ih =>
      intro v1 v2 x3 H locs ls hl hP hD hS hk hF
      have hF : f_X7_readsCells_L4F k (f_X7_readsCells_L4 k n) v1 v2 x3 = some res := hF
      unfold f_X7_readsCells_L4F at hF
      refine lv_iload_n hx hb dX7_readsCells_4 rfl (lv_at hl 2 rfl) ?_
      refine lv_if_eq (tgt := 81) hx hb dX7_readsCells_5 (by decide) (fun c5 => ?_) (fun c5 => ?_)
      · have hF := q_it hF c5
        exact hk _ _ _ _ (lv_sub hl [] rfl) hP hD hS hF
      · have hF := q_ie hF c5
        refine lv_aload_n hx hb dX7_readsCells_8 rfl (lv_at hl 0 rfl) ?_
        refine lv_iload_n hx hb dX7_readsCells_9 rfl (lv_at hl 1 rfl) ?_
        obtain ⟨r6, x7, hC8, hF⟩ := q_b2_e hF
        refine q_calli hM (c_X7_number l D cI cJ g ad _ _ _ hC8) hP hD hS ky_X7_number ml_X7_67 rfl rfl ⟨Nat.le_of_ble_eq_true rfl, Nat.le_of_ble_eq_true rfl⟩ 0 rfl rfl rfl hl.1 rfl (Nat.le_of_ble_eq_true rfl) ⟨Nat.zero_le _, Nat.zero_le _⟩ dX7_readsCells_10 (fun H locs hz9 hP hD hS => ?_)
        refine lv_istore (lv' := [(4, .int r6), (0, .ref (ad 0)), (2, .int v1), (3, .int v2)]) hx hb dX7_readsCells_13 hl (by decide) rfl (fun ls hl => ?_)
        refine lv_iload hx hb dX7_readsCells_15 (lv_at hl 0 rfl) ?_
        refine lv_if_lt (tgt := 29) hx hb dX7_readsCells_17 (by decide) (fun c10 => ?_) (fun c10 => ?_)
        · have hF := q_it hF c10
          refine lv_iconst (v := 0) hx hb dX7_readsCells_29 (by decide) ?_
          exact hRet ((0 : Int32), x7) _ _ _ _ hF narrow_b0 dX7_readsCells_30 hP hD hS
        · have hF := q_ie hF c10
          refine lv_aload_n hx hb dX7_readsCells_20 rfl (lv_at hl 1 rfl) ?_
          refine qg_M_X7_readCells hM hP fl_X7_41 dX7_readsCells_21 ?_
          refine lv_bipush (v := 48) hx hb dX7_readsCells_24 (by decide) ?_
          refine lv_icmp_ne (tgt := 31) hx hb dX7_readsCells_26 (by decide) (fun c11 => ?_) (fun c11 => ?_)
          · have hF := q_ie hF c11
            refine lv_aload_n hx hb dX7_readsCells_31 rfl (lv_at hl 1 rfl) ?_
            refine qg_M_X7_read hM hP fl_X7_22 dX7_readsCells_32 ?_
            refine lv_aload_n hx hb dX7_readsCells_35 rfl (lv_at hl 1 rfl) ?_
            refine qg_M_X7_readCells hM hP fl_X7_41 dX7_readsCells_36 ?_
            refine lv_iload hx hb dX7_readsCells_39 (lv_at hl 0 rfl) ?_
            obtain ⟨h12, hF⟩ := q_gd_e hF
            refine qs_M_X7_read hM hP hD hS h12 dX7_readsCells_41 (fun x13 H locs ex13 hP hD hS => ?_)
            have hF := q_let_e hF ex13
            refine lv_aload_n hx hb dX7_readsCells_42 rfl (lv_at hl 1 rfl) ?_
            refine lv_dup hx hb dX7_readsCells_43 rfl ?_
            refine qg_M_X7_readCells hM hP fl_X7_41 dX7_readsCells_44 ?_
            refine lv_iconst (v := 1) hx hb dX7_readsCells_47 (by decide) ?_
            refine lv_iadd hx hb dX7_readsCells_48 ?_
            refine qp_M_X7_readCells hM hP hD hS fl_X7_41 dX7_readsCells_49 (fun x14 H locs ex14 hP hD hS => ?_)
            have hF := q_let_e hF ex14
            refine lv_aload_n hx hb dX7_readsCells_52 rfl (lv_at hl 1 rfl) ?_
            refine lv_aload_n hx hb dX7_readsCells_53 rfl (lv_at hl 1 rfl) ?_
            refine qg_M_X7_ends hM hP fl_X7_60 dX7_readsCells_54 ?_
            obtain ⟨r15, hC16, hF⟩ := q_b1_e hF
            refine q_calli hM (c_X7_letterAt l D cI cJ g ad _ _ _ hC16) hP hD hS ky_X7_letterAt ml_X7_63 rfl rfl ⟨Nat.le_of_ble_eq_true rfl, Nat.le_of_ble_eq_true rfl⟩ 0 rfl rfl rfl hl.1 rfl (Nat.le_of_ble_eq_true rfl) ⟨Nat.zero_le _, Nat.zero_le _⟩ dX7_readsCells_57 (fun H locs hz17 hP hD hS => ?_)
            refine lv_bipush (v := 44) hx hb dX7_readsCells_60 (by decide) ?_
            obtain ⟨J70, hJ70, hF⟩ := q_jn_e hF
            have K70 : ∀ (t19 : Int32) (H : Heap) (locs : List Loc) (ls : Array Slot), lv_has ls 5 [(0, .ref (ad 0))] → va_P D vwCl (q_WM cI ad x14) H → va_D A (q_WM cI ad x14) → va_S A s.heap H locs → J70 t19 = some res → W p l e { frames := 2, cells := 0, slots := 0, locals := 43 } s m args below meth c H locs 0 0 Q (F0 m 70 ls [.int t19]) := by
              clear hF; intro t19 H locs ls hl hP hD hS hF
              rw [hJ70] at hF
              try dsimp only at hF
              refine lv_istore_n (lv' := [(3, .int t19), (0, .ref (ad 0))]) hx hb dX7_readsCells_70 rfl hl (by decide) rfl (fun ls hl => ?_)
              refine lv_aload_n hx hb dX7_readsCells_71 rfl (lv_at hl 1 rfl) ?_
              refine qg_M_X7_ends hM hP fl_X7_60 dX7_readsCells_72 ?_
              refine lv_iconst (v := 1) hx hb dX7_readsCells_75 (by decide) ?_
              refine lv_iadd hx hb dX7_readsCells_76 ?_
              refine lv_topi (fun v20 ev20 => ?_)
              have hF := q_let_e hF ev20
              refine lv_istore_n (lv' := [(2, .int v20), (3, .int t19), (0, .ref (ad 0))]) hx hb dX7_readsCells_77 rfl hl (by decide) rfl (fun ls hl => ?_)
              refine lv_goto (tgt := 4) hx hb dX7_readsCells_78 (by decide) ?_
              exact ih _ _ _ _ _ _ (lv_sub hl [2, 0, 1] rfl) hP hD hS hk hF
            refine lv_icmp_ne (tgt := 69) hx hb dX7_readsCells_62 (by decide) (fun c18 => ?_) (fun c18 => ?_)
            · have hF := q_ie hF c18
              refine lv_iconst (v := 0) hx hb dX7_readsCells_69 (by decide) ?_
              exact K70 _ _ _ _ (lv_sub hl [1] rfl) hP hD hS hF
            · have hF := q_it hF c18
              refine lv_iconst (v := 1) hx hb dX7_readsCells_65 (by decide) ?_
              refine lv_goto (tgt := 70) hx hb dX7_readsCells_66 (by decide) ?_
              exact K70 _ _ _ _ (lv_sub hl [1] rfl) hP hD hS hF
          · have hF := q_it hF c11
            refine lv_iconst (v := 0) hx hb dX7_readsCells_29 (by decide) ?_
            exact hRet ((0 : Int32), x7) _ _ _ _ hF narrow_b0 dX7_readsCells_30 hP hD hS
  refine L4 _ _ _ _ _ _ _ _ (lv_sub hl [2, 1, 0] rfl) hP hD hS ?_ hF
  clear hF
  intro x4 H locs ls hl hP hD hS hF
  refine lv_iconst (v := 1) hx hb dX7_readsCells_81 (by decide) ?_
  exact hRet ((1 : Int32), x4) _ _ _ _ hF narrow_b1 dX7_readsCells_82 hP hD hS
theorem ky_X7_least : q_YS yX7_least cX7_least 1 (some .int) 1 := ⟨cw_X7_least, st_X7_least, in_X7, by decide +kernel⟩
set_option maxHeartbeats 4000000 in
set_option maxRecDepth 100000 in
theorem c_X7_least (l : Launch) (D : va_G) (cI cJ : ClassId) (g : Nat → Nat) (w : va_W) (a1 : Int32) (res : Int32) (hF : f_X7_least a1 = some res) : q_Mi l yX7_least cX7_least 1 .int { frames := 0, cells := 0, slots := 0, locals := 0 } D cI cJ g w [.int a1] (res) w := by
  refine q_ofi (res := res) (fun u : Int32 => u) (fun _ : Int32 => w) pl_X7 (Nat.le_of_ble_eq_true rfl) ?_
  intro p e s m args below meth c A Q hM hRet ls hl hP hD hS
  have hx := hM.1.1
  have hb := hM.1.2.1
  have hl : lv_has ls 1 [(0, .int a1)] := hl
  unfold f_X7_least at hF
  refine lv_iload_n hx hb dX7_least_0 rfl (lv_at hl 0 rfl) ?_
  refine lv_iconst (v := 1) hx hb dX7_least_1 (by decide) ?_
  refine lv_icmp_ne (tgt := 9) hx hb dX7_least_2 (by decide) (fun c1 => ?_) (fun c1 => ?_)
  · have hF := q_ie hF c1
    refine lv_iconst (v := 1) hx hb dX7_least_9 (by decide) ?_
    exact hRet (1 : Int32) _ _ _ _ hF rfl dX7_least_10 hP hD hS
  · have hF := q_it hF c1
    refine lv_iconst (v := 0) hx hb dX7_least_5 (by decide) ?_
    refine lv_goto (tgt := 10) hx hb dX7_least_6 (by decide) ?_
    exact hRet (0 : Int32) _ _ _ _ hF rfl dX7_least_10 hP hD hS
theorem ky_X7_most : q_YS yX7_most cX7_most 1 (some .int) 1 := ⟨cw_X7_most, st_X7_most, in_X7, by decide +kernel⟩
set_option maxHeartbeats 4000000 in
set_option maxRecDepth 100000 in
theorem c_X7_most (l : Launch) (D : va_G) (cI cJ : ClassId) (g : Nat → Nat) (w : va_W) (a1 : Int32) (res : Int32) (hF : f_X7_most a1 = some res) : q_Mi l yX7_most cX7_most 1 .int { frames := 0, cells := 0, slots := 0, locals := 0 } D cI cJ g w [.int a1] (res) w := by
  refine q_ofi (res := res) (fun u : Int32 => u) (fun _ : Int32 => w) pl_X7 (Nat.le_of_ble_eq_true rfl) ?_
  intro p e s m args below meth c A Q hM hRet ls hl hP hD hS
  have hx := hM.1.1
  have hb := hM.1.2.1
  have hl : lv_has ls 1 [(0, .int a1)] := hl
  unfold f_X7_most at hF
  refine lv_iload_n hx hb dX7_most_0 rfl (lv_at hl 0 rfl) ?_
  refine lv_if_ne (tgt := 9) hx hb dX7_most_1 (by decide) (fun c1 => ?_) (fun c1 => ?_)
  · have hF := q_ie hF c1
    refine lv_iload_n hx hb dX7_most_9 rfl (lv_at hl 0 rfl) ?_
    refine lv_iconst (v := 1) hx hb dX7_most_10 (by decide) ?_
    refine lv_icmp_ne (tgt := 18) hx hb dX7_most_11 (by decide) (fun c2 => ?_) (fun c2 => ?_)
    · have hF := q_ie hF c2
      refine lv_iload_n hx hb dX7_most_18 rfl (lv_at hl 0 rfl) ?_
      refine lv_iconst (v := 2) hx hb dX7_most_19 (by decide) ?_
      refine lv_icmp_ne (tgt := 28) hx hb dX7_most_20 (by decide) (fun c3 => ?_) (fun c3 => ?_)
      · have hF := q_ie hF c3
        refine lv_bipush (v := 40) hx hb dX7_most_28 (by decide) ?_
        exact hRet (40 : Int32) _ _ _ _ hF rfl dX7_most_30 hP hD hS
      · have hF := q_it hF c3
        refine lv_bipush (v := 12) hx hb dX7_most_23 (by decide) ?_
        refine lv_goto (tgt := 30) hx hb dX7_most_25 (by decide) ?_
        exact hRet (12 : Int32) _ _ _ _ hF rfl dX7_most_30 hP hD hS
    · have hF := q_it hF c2
      refine lv_iconst (v := 3) hx hb dX7_most_14 (by decide) ?_
      refine lv_goto (tgt := 30) hx hb dX7_most_15 (by decide) ?_
      exact hRet (3 : Int32) _ _ _ _ hF rfl dX7_most_30 hP hD hS
  · have hF := q_it hF c1
    refine lv_bipush (v := 6) hx hb dX7_most_4 (by decide) ?_
    refine lv_goto (tgt := 30) hx hb dX7_most_6 (by decide) ?_
    exact hRet (6 : Int32) _ _ _ _ hF rfl dX7_most_30 hP hD hS
theorem ky_X7_readsLook : q_Y yX7_readsLook cX7_readsLook 5 (some .boolean) 1 := ⟨cw_X7_readsLook, im_X7_readsLook, se_X7_readsLook, in_X7, by decide +kernel⟩
set_option maxHeartbeats 4000000 in
set_option maxRecDepth 100000 in
theorem c_X7_readsLook (l : Launch) (D : va_G) (cI cJ : ClassId) (g : Nat → Nat) (ad : Nat → Nat) (x : IS) (a1 : Int32) (res : Int32 × IS) (hF : f_X7_readsLook x a1 = some res) : q_Mi l yX7_readsLook cX7_readsLook 5 .boolean { frames := 2, cells := 0, slots := 0, locals := 43 } D cI cJ g (q_WM cI ad x) [.ref (ad 0), .int a1] (res.1) (q_WM cI ad (res.2)) := by
  refine q_ofi (res := res) (fun u : Int32 × IS => u.1) (fun u : Int32 × IS => (q_WM cI ad (u.2))) pl_X7 (Nat.le_of_ble_eq_true rfl) ?_
  intro p e s m args below meth c A Q hM hRet ls hl hP hD hS
  have hx := hM.1.1
  have hb := hM.1.2.1
  have hl : lv_has ls 5 [(0, .ref (ad 0)), (1, .int a1)] := hl
  unfold f_X7_readsLook at hF
  refine lv_iload_n hx hb dX7_readsLook_0 rfl (lv_at hl 1 rfl) ?_
  refine lv_istore_n (lv' := [(2, .int a1), (0, .ref (ad 0)), (1, .int a1)]) hx hb dX7_readsLook_1 rfl hl (by decide) rfl (fun ls hl => ?_)
  refine lv_iconst (v := 0) hx hb dX7_readsLook_2 (by decide) ?_
  refine lv_istore_n (lv' := [(3, .int (0 : Int32)), (2, .int a1), (0, .ref (ad 0)), (1, .int a1)]) hx hb dX7_readsLook_3 rfl hl (by decide) rfl (fun ls hl => ?_)
  have L4 : ∀ (k : IS → Option (Int32 × IS)) (n : Nat) (v1 : Int32) (v2 : Int32) (x3 : IS) (H : Heap) (locs : List Loc) (ls : Array Slot), lv_has ls 5 [(0, .ref (ad 0)), (2, .int v1), (3, .int v2)] → va_P D vwCl (q_WM cI ad x3) H → va_D A (q_WM cI ad x3) → va_S A s.heap H locs → (∀ (x4 : IS) (H : Heap) (locs : List Loc) (ls : Array Slot), lv_has ls 5 [] → va_P D vwCl (q_WM cI ad x4) H → va_D A (q_WM cI ad x4) → va_S A s.heap H locs → k x4 = some res → W p l e { frames := 2, cells := 0, slots := 0, locals := 43 } s m args below meth c H locs 0 0 Q (F0 m 76 ls [])) → f_X7_readsLook_L4 k n v1 v2 x3 = some res → W p l e { frames := 2, cells := 0, slots := 0, locals := 43 } s m args below meth c H locs 0 0 Q (F0 m 4 ls []) := by
    intro k n
    induction n with
    | zero => intro v1 v2 x3 H locs ls hl hP hD hS hk hF; exact q_no hF
    | succ n ih =>
      intro v1 v2 x3 H locs ls hl hP hD hS hk hF
      have hF : f_X7_readsLook_L4F k (f_X7_readsLook_L4 k n) v1 v2 x3 = some res := hF
      unfold f_X7_readsLook_L4F at hF
      refine lv_iload_n hx hb dX7_readsLook_4 rfl (lv_at hl 2 rfl) ?_
      refine lv_iconst (v := 5) hx hb dX7_readsLook_5 (by decide) ?_
      refine lv_icmp_ge (tgt := 76) hx hb dX7_readsLook_6 (by decide) (fun c5 => ?_) (fun c5 => ?_)
      · have hF := q_it hF c5
        exact hk _ _ _ _ (lv_sub hl [] rfl) hP hD hS hF
      · have hF := q_ie hF c5
        refine lv_aload_n hx hb dX7_readsLook_9 rfl (lv_at hl 0 rfl) ?_
        refine lv_iload_n hx hb dX7_readsLook_10 rfl (lv_at hl 1 rfl) ?_
        obtain ⟨r6, x7, hC8, hF⟩ := q_b2_e hF
        refine q_calli hM (c_X7_number l D cI cJ g ad _ _ _ hC8) hP hD hS ky_X7_number ml_X7_67 rfl rfl ⟨Nat.le_of_ble_eq_true rfl, Nat.le_of_ble_eq_true rfl⟩ 0 rfl rfl rfl hl.1 rfl (Nat.le_of_ble_eq_true rfl) ⟨Nat.zero_le _, Nat.zero_le _⟩ dX7_readsLook_11 (fun H locs hz9 hP hD hS => ?_)
        refine lv_istore (lv' := [(4, .int r6), (0, .ref (ad 0)), (2, .int v1), (3, .int v2)]) hx hb dX7_readsLook_14 hl (by decide) rfl (fun ls hl => ?_)
        refine lv_iload hx hb dX7_readsLook_16 (lv_at hl 0 rfl) ?_
        refine lv_iload_n hx hb dX7_readsLook_18 rfl (lv_at hl 3 rfl) ?_
        obtain ⟨r10, hC11, hF⟩ := q_b1_e hF
        refine q_calliS hM (c_X7_least l D cI cJ g (q_WM cI ad x7) _ _ hC11) hP hD hS ky_X7_least ml_X7_70 rfl rfl ⟨Nat.le_of_ble_eq_true rfl, Nat.le_of_ble_eq_true rfl⟩ rfl hl.1 rfl (Nat.le_of_ble_eq_true rfl) ⟨Nat.zero_le _, Nat.zero_le _⟩ dX7_readsLook_19 (fun H locs hz12 hP hD hS => ?_)
        refine lv_iload_n hx hb dX7_readsLook_22 rfl (lv_at hl 3 rfl) ?_
        obtain ⟨r13, hC14, hF⟩ := q_b1_e hF
        refine q_calliS hM (c_X7_most l D cI cJ g (q_WM cI ad x7) _ _ hC14) hP hD hS ky_X7_most ml_X7_73 rfl rfl ⟨Nat.le_of_ble_eq_true rfl, Nat.le_of_ble_eq_true rfl⟩ rfl hl.1 rfl (Nat.le_of_ble_eq_true rfl) ⟨Nat.zero_le _, Nat.zero_le _⟩ dX7_readsLook_23 (fun H locs hz15 hP hD hS => ?_)
        obtain ⟨r16, hC17, hF⟩ := q_b1_e hF
        refine q_calliS hM (c_X7_isIn l D cI cJ g (q_WM cI ad x7) _ _ _ _ hC17) hP hD hS ky_X7_isIn ml_X7_76 rfl rfl ⟨Nat.le_of_ble_eq_true rfl, Nat.le_of_ble_eq_true rfl⟩ rfl hl.1 rfl (Nat.le_of_ble_eq_true rfl) ⟨Nat.zero_le _, Nat.zero_le _⟩ dX7_readsLook_26 (fun H locs hz18 hP hD hS => ?_)
        refine lv_if_eq (tgt := 50) hx hb dX7_readsLook_29 (by decide) (fun c19 => ?_) (fun c19 => ?_)
        · have hF := q_it hF c19
          refine lv_iconst (v := 0) hx hb dX7_readsLook_50 (by decide) ?_
          exact hRet ((0 : Int32), x7) _ _ _ _ hF narrow_b0 dX7_readsLook_51 hP hD hS
        · have hF := q_ie hF c19
          refine lv_iload_n hx hb dX7_readsLook_32 rfl (lv_at hl 3 rfl) ?_
          refine lv_iconst (v := 4) hx hb dX7_readsLook_33 (by decide) ?_
          obtain ⟨J52, hJ52, hF⟩ := q_jn_e hF
          have K52 : ∀ (H : Heap) (locs : List Loc) (ls : Array Slot), lv_has ls 5 [(0, .ref (ad 0)), (3, .int v2), (4, .int r6)] → va_P D vwCl (q_WM cI ad x7) H → va_D A (q_WM cI ad x7) → va_S A s.heap H locs → J52 = some res → W p l e { frames := 2, cells := 0, slots := 0, locals := 43 } s m args below meth c H locs 0 0 Q (F0 m 52 ls []) := by
            clear hF; intro H locs ls hl hP hD hS hF
            rw [hJ52] at hF
            refine lv_aload_n hx hb dX7_readsLook_52 rfl (lv_at hl 0 rfl) ?_
            refine qg_M_X7_read hM hP fl_X7_22 dX7_readsLook_53 ?_
            refine lv_bipush (v := 96) hx hb dX7_readsLook_56 (by decide) ?_
            refine lv_iload_n hx hb dX7_readsLook_58 rfl (lv_at hl 1 rfl) ?_
            refine lv_iadd hx hb dX7_readsLook_59 ?_
            refine lv_iload hx hb dX7_readsLook_60 (lv_at hl 2 rfl) ?_
            obtain ⟨h25, hF⟩ := q_gd_e hF
            refine qs_M_X7_read hM hP hD hS h25 dX7_readsLook_62 (fun x26 H locs ex26 hP hD hS => ?_)
            have hF := q_let_e hF ex26
            refine lv_aload_n hx hb dX7_readsLook_63 rfl (lv_at hl 0 rfl) ?_
            refine qg_M_X7_ends hM hP fl_X7_60 dX7_readsLook_64 ?_
            refine lv_iconst (v := 1) hx hb dX7_readsLook_67 (by decide) ?_
            refine lv_iadd hx hb dX7_readsLook_68 ?_
            refine lv_topi (fun v27 ev27 => ?_)
            have hF := q_let_e hF ev27
            refine lv_istore_n (lv' := [(2, .int v27), (0, .ref (ad 0)), (3, .int v2), (4, .int r6)]) hx hb dX7_readsLook_69 rfl hl (by decide) rfl (fun ls hl => ?_)
            obtain ⟨v28, ev28⟩ : ∃ y : Int32, y = v2 + 1 := ⟨_, rfl⟩
            have hF := q_let_e hF ev28
            refine lv_iinc (v := v28) (lv' := [(3, .int v28), (2, .int v27), (0, .ref (ad 0)), (4, .int r6)]) hx hb dX7_readsLook_70 hl (k := 2) rfl (by rw [ev28]; rfl) (by decide) rfl (fun ls hl => ?_)
            refine lv_goto (tgt := 4) hx hb dX7_readsLook_73 (by decide) ?_
            exact ih _ _ _ _ _ _ (lv_sub hl [2, 1, 0] rfl) hP hD hS hk hF
          refine lv_icmp_ge (tgt := 52) hx hb dX7_readsLook_34 (by decide) (fun c20 => ?_) (fun c20 => ?_)
          · have hF := q_it hF c20
            exact K52 _ _ _ (lv_sub hl [1, 3, 0] rfl) hP hD hS hF
          · have hF := q_ie hF c20
            refine lv_aload_n hx hb dX7_readsLook_37 rfl (lv_at hl 1 rfl) ?_
            refine lv_aload_n hx hb dX7_readsLook_38 rfl (lv_at hl 1 rfl) ?_
            refine qg_M_X7_ends hM hP fl_X7_60 dX7_readsLook_39 ?_
            obtain ⟨r21, hC22, hF⟩ := q_b1_e hF
            refine q_calli hM (c_X7_letterAt l D cI cJ g ad _ _ _ hC22) hP hD hS ky_X7_letterAt ml_X7_63 rfl rfl ⟨Nat.le_of_ble_eq_true rfl, Nat.le_of_ble_eq_true rfl⟩ 0 rfl rfl rfl hl.1 rfl (Nat.le_of_ble_eq_true rfl) ⟨Nat.zero_le _, Nat.zero_le _⟩ dX7_readsLook_42 (fun H locs hz23 hP hD hS => ?_)
            refine lv_bipush (v := 44) hx hb dX7_readsLook_45 (by decide) ?_
            refine lv_icmp_eq (tgt := 52) hx hb dX7_readsLook_47 (by decide) (fun c24 => ?_) (fun c24 => ?_)
            · have hF := q_it hF c24
              exact K52 _ _ _ (lv_sub hl [1, 3, 0] rfl) hP hD hS hF
            · have hF := q_ie hF c24
              refine lv_iconst (v := 0) hx hb dX7_readsLook_50 (by decide) ?_
              exact hRet ((0 : Int32), x7) _ _ _ _ hF narrow_b0 dX7_readsLook_51 hP hD hS
  refine L4 _ _ _ _ _ _ _ _ (lv_sub hl [2, 1, 0] rfl) hP hD hS ?_ hF
  clear hF
  intro x4 H locs ls hl hP hD hS hF
  refine lv_iconst (v := 1) hx hb dX7_readsLook_76 (by decide) ?_
  exact hRet ((1 : Int32), x4) _ _ _ _ hF narrow_b1 dX7_readsLook_77 hP hD hS
theorem ky_X7_readsMode : q_Y yX7_readsMode cX7_readsMode 5 (some .boolean) 1 := ⟨cw_X7_readsMode, im_X7_readsMode, se_X7_readsMode, in_X7, by decide +kernel⟩
set_option maxHeartbeats 4000000 in
set_option maxRecDepth 100000 in
theorem c_X7_readsMode (l : Launch) (D : va_G) (cI cJ : ClassId) (g : Nat → Nat) (ad : Nat → Nat) (x : IS) (a1 : Int32) (res : Int32 × IS) (hF : f_X7_readsMode x a1 = some res) : q_Mi l yX7_readsMode cX7_readsMode 5 .boolean { frames := 2, cells := 0, slots := 0, locals := 46 } D cI cJ g (q_WM cI ad x) [.ref (ad 0), .int a1] (res.1) (q_WM cI ad (res.2)) := by
  refine q_ofi (res := res) (fun u : Int32 × IS => u.1) (fun u : Int32 × IS => (q_WM cI ad (u.2))) pl_X7 (Nat.le_of_ble_eq_true rfl) ?_
  intro p e s m args below meth c A Q hM hRet ls hl hP hD hS
  have hx := hM.1.1
  have hb := hM.1.2.1
  have hl : lv_has ls 5 [(0, .ref (ad 0)), (1, .int a1)] := hl
  unfold f_X7_readsMode at hF
  refine lv_aload_n hx hb dX7_readsMode_0 rfl (lv_at hl 0 rfl) ?_
  refine lv_iload_n hx hb dX7_readsMode_1 rfl (lv_at hl 1 rfl) ?_
  refine lv_bipush (v := 98) hx hb dX7_readsMode_2 (by decide) ?_
  refine lv_bipush (v := 111) hx hb dX7_readsMode_4 (by decide) ?_
  refine lv_bipush (v := 116) hx hb dX7_readsMode_6 (by decide) ?_
  refine lv_bipush (v := 104) hx hb dX7_readsMode_8 (by decide) ?_
  obtain ⟨r1, hC2, hF⟩ := q_b1_e hF
  refine q_calli hM (c_X7_isWord l D cI cJ g ad _ _ _ _ _ _ _ hC2) hP hD hS ky_X7_isWord ml_X7_80 rfl rfl ⟨Nat.le_of_ble_eq_true rfl, Nat.le_of_ble_eq_true rfl⟩ 0 rfl rfl rfl hl.1 rfl (Nat.le_of_ble_eq_true rfl) ⟨Nat.zero_le _, Nat.zero_le _⟩ dX7_readsMode_10 (fun H locs hz3 hP hD hS => ?_)
  refine lv_istore_n (lv' := [(2, .int r1), (0, .ref (ad 0)), (1, .int a1)]) hx hb dX7_readsMode_13 rfl hl (by decide) rfl (fun ls hl => ?_)
  refine lv_aload_n hx hb dX7_readsMode_14 rfl (lv_at hl 1 rfl) ?_
  refine lv_iload_n hx hb dX7_readsMode_15 rfl (lv_at hl 2 rfl) ?_
  refine lv_bipush (v := 109) hx hb dX7_readsMode_16 (by decide) ?_
  refine lv_bipush (v := 111) hx hb dX7_readsMode_18 (by decide) ?_
  refine lv_bipush (v := 114) hx hb dX7_readsMode_20 (by decide) ?_
  refine lv_bipush (v := 101) hx hb dX7_readsMode_22 (by decide) ?_
  obtain ⟨r4, hC5, hF⟩ := q_b1_e hF
  refine q_calli hM (c_X7_isWord l D cI cJ g ad _ _ _ _ _ _ _ hC5) hP hD hS ky_X7_isWord ml_X7_80 rfl rfl ⟨Nat.le_of_ble_eq_true rfl, Nat.le_of_ble_eq_true rfl⟩ 0 rfl rfl rfl hl.1 rfl (Nat.le_of_ble_eq_true rfl) ⟨Nat.zero_le _, Nat.zero_le _⟩ dX7_readsMode_24 (fun H locs hz6 hP hD hS => ?_)
  refine lv_istore_n (lv' := [(3, .int r4), (2, .int r1), (0, .ref (ad 0)), (1, .int a1)]) hx hb dX7_readsMode_27 rfl hl (by decide) rfl (fun ls hl => ?_)
  refine lv_aload_n hx hb dX7_readsMode_28 rfl (lv_at hl 2 rfl) ?_
  refine lv_iload_n hx hb dX7_readsMode_29 rfl (lv_at hl 3 rfl) ?_
  refine lv_bipush (v := 108) hx hb dX7_readsMode_30 (by decide) ?_
  refine lv_bipush (v := 101) hx hb dX7_readsMode_32 (by decide) ?_
  refine lv_bipush (v := 115) hx hb dX7_readsMode_34 (by decide) ?_
  refine lv_bipush (v := 115) hx hb dX7_readsMode_36 (by decide) ?_
  obtain ⟨r7, hC8, hF⟩ := q_b1_e hF
  refine q_calli hM (c_X7_isWord l D cI cJ g ad _ _ _ _ _ _ _ hC8) hP hD hS ky_X7_isWord ml_X7_80 rfl rfl ⟨Nat.le_of_ble_eq_true rfl, Nat.le_of_ble_eq_true rfl⟩ 0 rfl rfl rfl hl.1 rfl (Nat.le_of_ble_eq_true rfl) ⟨Nat.zero_le _, Nat.zero_le _⟩ dX7_readsMode_38 (fun H locs hz9 hP hD hS => ?_)
  refine lv_istore (lv' := [(4, .int r7), (3, .int r4), (2, .int r1), (0, .ref (ad 0)), (1, .int a1)]) hx hb dX7_readsMode_41 hl (by decide) rfl (fun ls hl => ?_)
  refine lv_aload_n hx hb dX7_readsMode_43 rfl (lv_at hl 3 rfl) ?_
  refine qg_M_X7_read hM hP fl_X7_22 dX7_readsMode_44 ?_
  refine lv_bipush (v := 101) hx hb dX7_readsMode_47 (by decide) ?_
  refine lv_iload_n hx hb dX7_readsMode_49 rfl (lv_at hl 2 rfl) ?_
  obtain ⟨J66, hJ66, hF⟩ := q_jn_e hF
  have K66 : ∀ (t12 : Int32) (H : Heap) (locs : List Loc) (ls : Array Slot), lv_has ls 5 [(0, .ref (ad 0)), (1, .int a1), (2, .int r1), (3, .int r4), (4, .int r7)] → va_P D vwCl (q_WM cI ad x) H → va_D A (q_WM cI ad x) → va_S A s.heap H locs → J66 t12 = some res → W p l e { frames := 2, cells := 0, slots := 0, locals := 46 } s m args below meth c H locs 0 0 Q (F0 m 66 ls [.int t12, .int (101 : Int32), .ref (ad 5)]) := by
    clear hF; intro t12 H locs ls hl hP hD hS hF
    rw [hJ66] at hF
    try dsimp only at hF
    refine qs_M_X7_read hM hP hD hS (by decide) dX7_readsMode_66 (fun x13 H locs ex13 hP hD hS => ?_)
    have hF := q_let_e hF ex13
    refine lv_aload_n hx hb dX7_readsMode_67 rfl (lv_at hl 0 rfl) ?_
    refine lv_iload_n hx hb dX7_readsMode_68 rfl (lv_at hl 1 rfl) ?_
    refine lv_iconst (v := 4) hx hb dX7_readsMode_69 (by decide) ?_
    refine lv_iadd hx hb dX7_readsMode_70 ?_
    refine qp_M_X7_ends hM hP hD hS fl_X7_60 dX7_readsMode_71 (fun x14 H locs ex14 hP hD hS => ?_)
    have hF := q_let_e hF ex14
    refine lv_iload_n hx hb dX7_readsMode_74 rfl (lv_at hl 2 rfl) ?_
    refine lv_if_ne (tgt := 87) hx hb dX7_readsMode_75 (by decide) (fun c15 => ?_) (fun c15 => ?_)
    · have hF := q_ie hF c15
      refine lv_iconst (v := 1) hx hb dX7_readsMode_87 (by decide) ?_
      refine lv_goto (tgt := 92) hx hb dX7_readsMode_88 (by decide) ?_
      exact hRet ((1 : Int32), x14) _ _ _ _ hF narrow_b1 dX7_readsMode_92 hP hD hS
    · have hF := q_it hF c15
      refine lv_iload_n hx hb dX7_readsMode_78 rfl (lv_at hl 3 rfl) ?_
      refine lv_if_ne (tgt := 87) hx hb dX7_readsMode_79 (by decide) (fun c16 => ?_) (fun c16 => ?_)
      · have hF := q_ie hF c16
        refine lv_iconst (v := 1) hx hb dX7_readsMode_87 (by decide) ?_
        refine lv_goto (tgt := 92) hx hb dX7_readsMode_88 (by decide) ?_
        exact hRet ((1 : Int32), x14) _ _ _ _ hF narrow_b1 dX7_readsMode_92 hP hD hS
      · have hF := q_it hF c16
        refine lv_iload hx hb dX7_readsMode_82 (lv_at hl 4 rfl) ?_
        refine lv_if_eq (tgt := 91) hx hb dX7_readsMode_84 (by decide) (fun c17 => ?_) (fun c17 => ?_)
        · have hF := q_it hF c17
          refine lv_iconst (v := 0) hx hb dX7_readsMode_91 (by decide) ?_
          exact hRet ((0 : Int32), x14) _ _ _ _ hF narrow_b0 dX7_readsMode_92 hP hD hS
        · have hF := q_ie hF c17
          refine lv_iconst (v := 1) hx hb dX7_readsMode_87 (by decide) ?_
          refine lv_goto (tgt := 92) hx hb dX7_readsMode_88 (by decide) ?_
          exact hRet ((1 : Int32), x14) _ _ _ _ hF narrow_b1 dX7_readsMode_92 hP hD hS
  refine lv_if_eq (tgt := 57) hx hb dX7_readsMode_50 (by decide) (fun c10 => ?_) (fun c10 => ?_)
  · have hF := q_it hF c10
    refine lv_iload_n hx hb dX7_readsMode_57 rfl (lv_at hl 1 rfl) ?_
    refine lv_if_eq (tgt := 65) hx hb dX7_readsMode_58 (by decide) (fun c11 => ?_) (fun c11 => ?_)
    · have hF := q_it hF c11
      refine lv_iconst (v := 2) hx hb dX7_readsMode_65 (by decide) ?_
      exact K66 _ _ _ _ (lv_sub hl [3, 4, 2, 1, 0] rfl) hP hD hS hF
    · have hF := q_ie hF c11
      refine lv_iconst (v := 1) hx hb dX7_readsMode_61 (by decide) ?_
      refine lv_goto (tgt := 66) hx hb dX7_readsMode_62 (by decide) ?_
      exact K66 _ _ _ _ (lv_sub hl [3, 4, 2, 1, 0] rfl) hP hD hS hF
  · have hF := q_ie hF c10
    refine lv_iconst (v := 0) hx hb dX7_readsMode_53 (by decide) ?_
    refine lv_goto (tgt := 66) hx hb dX7_readsMode_54 (by decide) ?_
    exact K66 _ _ _ _ (lv_sub hl [3, 4, 2, 1, 0] rfl) hP hD hS hF
theorem ky_X7_readsNoise : q_Y yX7_readsNoise cX7_readsNoise 7 (some .boolean) 1 := ⟨cw_X7_readsNoise, im_X7_readsNoise, se_X7_readsNoise, in_X7, by decide +kernel⟩
set_option maxHeartbeats 4000000 in
set_option maxRecDepth 100000 in
theorem c_X7_readsNoise (l : Launch) (D : va_G) (cI cJ : ClassId) (g : Nat → Nat) (ad : Nat → Nat) (x : IS) (a1 : Int32) (res : Int32 × IS) (hF : f_X7_readsNoise x a1 = some res) : q_Mi l yX7_readsNoise cX7_readsNoise 7 .boolean { frames := 2, cells := 0, slots := 0, locals := 43 } D cI cJ g (q_WM cI ad x) [.ref (ad 0), .int a1] (res.1) (q_WM cI ad (res.2)) := by
  refine q_ofi (res := res) (fun u : Int32 × IS => u.1) (fun u : Int32 × IS => (q_WM cI ad (u.2))) pl_X7 (Nat.le_of_ble_eq_true rfl) ?_
  intro p e s m args below meth c A Q hM hRet ls hl hP hD hS
  have hx := hM.1.1
  have hb := hM.1.2.1
  have hl : lv_has ls 7 [(0, .ref (ad 0)), (1, .int a1)] := hl
  unfold f_X7_readsNoise at hF
  refine lv_iload_n hx hb dX7_readsNoise_0 rfl (lv_at hl 1 rfl) ?_
  refine lv_istore_n (lv' := [(2, .int a1), (0, .ref (ad 0)), (1, .int a1)]) hx hb dX7_readsNoise_1 rfl hl (by decide) rfl (fun ls hl => ?_)
  refine lv_iconst (v := 0) hx hb dX7_readsNoise_2 (by decide) ?_
  refine lv_istore_n (lv' := [(3, .int (0 : Int32)), (2, .int a1), (0, .ref (ad 0)), (1, .int a1)]) hx hb dX7_readsNoise_3 rfl hl (by decide) rfl (fun ls hl => ?_)
  refine lv_iconst (v := 0) hx hb dX7_readsNoise_4 (by decide) ?_
  refine lv_istore (lv' := [(4, .int (0 : Int32)), (3, .int (0 : Int32)), (2, .int a1), (0, .ref (ad 0)), (1, .int a1)]) hx hb dX7_readsNoise_5 hl (by decide) rfl (fun ls hl => ?_)
  refine lv_iconst (v := 1) hx hb dX7_readsNoise_7 (by decide) ?_
  refine lv_istore (lv' := [(5, .int (1 : Int32)), (4, .int (0 : Int32)), (3, .int (0 : Int32)), (2, .int a1), (0, .ref (ad 0)), (1, .int a1)]) hx hb dX7_readsNoise_8 hl (by decide) rfl (fun ls hl => ?_)
  have L10 : ∀ (k : Int32 → Int32 → IS → Option (Int32 × IS)) (n : Nat) (v1 : Int32) (v2 : Int32) (v3 : Int32) (v4 : Int32) (x7 : IS) (H : Heap) (locs : List Loc) (ls : Array Slot), lv_has ls 7 [(0, .ref (ad 0)), (2, .int v1), (3, .int v2), (4, .int v3), (5, .int v4)] → va_P D vwCl (q_WM cI ad x7) H → va_D A (q_WM cI ad x7) → va_S A s.heap H locs → (∀ (e5 : Int32) (e6 : Int32) (x8 : IS) (H : Heap) (locs : List Loc) (ls : Array Slot), lv_has ls 7 [(0, .ref (ad 0)), (3, .int e5), (4, .int e6)] → va_P D vwCl (q_WM cI ad x8) H → va_D A (q_WM cI ad x8) → va_S A s.heap H locs → k e5 e6 x8 = some res → W p l e { frames := 2, cells := 0, slots := 0, locals := 43 } s m args below meth c H locs 0 0 Q (F0 m 89 ls [])) → f_X7_readsNoise_L10 k n v1 v2 v3 v4 x7 = some res → W p l e { frames := 2, cells := 0, slots := 0, locals := 43 } s m args below meth c H locs 0 0 Q (F0 m 10 ls []) := by
    intro k n
    induction n with
    | zero => intro v1 v2 v3 v4 x7 H locs ls hl hP hD hS hk hF; exact q_no hF
    | succ n ih =>
      intro v1 v2 v3 v4 x7 H locs ls hl hP hD hS hk hF
      have hF : f_X7_readsNoise_L10F k (f_X7_readsNoise_L10 k n) v1 v2 v3 v4 x7 = some res := hF
      unfold f_X7_readsNoise_L10F at hF
      refine lv_iload hx hb dX7_readsNoise_10 (lv_at hl 4 rfl) ?_
      refine lv_if_eq (tgt := 89) hx hb dX7_readsNoise_12 (by decide) (fun c9 => ?_) (fun c9 => ?_)
      · have hF := q_it hF c9
        exact hk _ _ _ _ _ _ (lv_sub hl [0, 2, 3] rfl) hP hD hS hF
      · have hF := q_ie hF c9
        refine lv_aload_n hx hb dX7_readsNoise_15 rfl (lv_at hl 0 rfl) ?_
        refine lv_iload_n hx hb dX7_readsNoise_16 rfl (lv_at hl 1 rfl) ?_
        obtain ⟨r10, x11, hC12, hF⟩ := q_b2_e hF
        refine q_calli hM (c_X7_number l D cI cJ g ad _ _ _ hC12) hP hD hS ky_X7_number ml_X7_67 rfl rfl ⟨Nat.le_of_ble_eq_true rfl, Nat.le_of_ble_eq_true rfl⟩ 0 rfl rfl rfl hl.1 rfl (Nat.le_of_ble_eq_true rfl) ⟨Nat.zero_le _, Nat.zero_le _⟩ dX7_readsNoise_17 (fun H locs hz13 hP hD hS => ?_)
        refine lv_istore (lv' := [(6, .int r10), (0, .ref (ad 0)), (2, .int v1), (3, .int v2), (4, .int v3), (5, .int v4)]) hx hb dX7_readsNoise_20 hl (by decide) rfl (fun ls hl => ?_)
        refine lv_iload hx hb dX7_readsNoise_22 (lv_at hl 0 rfl) ?_
        refine lv_iconst (v := 0) hx hb dX7_readsNoise_24 (by decide) ?_
        refine lv_bipush (v := 16) hx hb dX7_readsNoise_25 (by decide) ?_
        obtain ⟨r14, hC15, hF⟩ := q_b1_e hF
        refine q_calliS hM (c_X7_isIn l D cI cJ g (q_WM cI ad x11) _ _ _ _ hC15) hP hD hS ky_X7_isIn ml_X7_76 rfl rfl ⟨Nat.le_of_ble_eq_true rfl, Nat.le_of_ble_eq_true rfl⟩ rfl hl.1 rfl (Nat.le_of_ble_eq_true rfl) ⟨Nat.zero_le _, Nat.zero_le _⟩ dX7_readsNoise_27 (fun H locs hz16 hP hD hS => ?_)
        refine lv_if_eq (tgt := 40) hx hb dX7_readsNoise_30 (by decide) (fun c17 => ?_) (fun c17 => ?_)
        · have hF := q_it hF c17
          refine lv_iconst (v := 0) hx hb dX7_readsNoise_40 (by decide) ?_
          exact hRet ((0 : Int32), x11) _ _ _ _ hF narrow_b0 dX7_readsNoise_41 hP hD hS
        · have hF := q_ie hF c17
          refine lv_iload hx hb dX7_readsNoise_33 (lv_at hl 4 rfl) ?_
          refine lv_bipush (v := 8) hx hb dX7_readsNoise_35 (by decide) ?_
          refine lv_icmp_ne (tgt := 42) hx hb dX7_readsNoise_37 (by decide) (fun c18 => ?_) (fun c18 => ?_)
          · have hF := q_ie hF c18
            refine lv_aload_n hx hb dX7_readsNoise_42 rfl (lv_at hl 1 rfl) ?_
            refine qg_M_X7_readNoise hM hP fl_X7_25 dX7_readsNoise_43 ?_
            refine lv_iload hx hb dX7_readsNoise_46 (lv_at hl 4 rfl) ?_
            refine lv_iload hx hb dX7_readsNoise_48 (lv_at hl 0 rfl) ?_
            obtain ⟨h19, hF⟩ := q_gd_e hF
            refine qs_M_X7_readNoise hM hP hD hS h19 dX7_readsNoise_50 (fun x20 H locs ex20 hP hD hS => ?_)
            have hF := q_let_e hF ex20
            refine lv_iload_n hx hb dX7_readsNoise_51 rfl (lv_at hl 3 rfl) ?_
            refine lv_iload hx hb dX7_readsNoise_52 (lv_at hl 0 rfl) ?_
            refine lv_iadd hx hb dX7_readsNoise_54 ?_
            refine lv_topi (fun v21 ev21 => ?_)
            have hF := q_let_e hF ev21
            refine lv_istore_n (lv' := [(3, .int v21), (6, .int r10), (0, .ref (ad 0)), (2, .int v1), (4, .int v3), (5, .int v4)]) hx hb dX7_readsNoise_55 rfl hl (by decide) rfl (fun ls hl => ?_)
            obtain ⟨v22, ev22⟩ : ∃ y : Int32, y = v3 + 1 := ⟨_, rfl⟩
            have hF := q_let_e hF ev22
            refine lv_iinc (v := v22) (lv' := [(4, .int v22), (3, .int v21), (6, .int r10), (0, .ref (ad 0)), (2, .int v1), (5, .int v4)]) hx hb dX7_readsNoise_56 hl (k := 4) rfl (by rw [ev22]; rfl) (by decide) rfl (fun ls hl => ?_)
            refine lv_aload_n hx hb dX7_readsNoise_59 rfl (lv_at hl 3 rfl) ?_
            refine lv_aload_n hx hb dX7_readsNoise_60 rfl (lv_at hl 3 rfl) ?_
            refine qg_M_X7_ends hM hP fl_X7_60 dX7_readsNoise_61 ?_
            obtain ⟨r23, hC24, hF⟩ := q_b1_e hF
            refine q_calli hM (c_X7_letterAt l D cI cJ g ad _ _ _ hC24) hP hD hS ky_X7_letterAt ml_X7_63 rfl rfl ⟨Nat.le_of_ble_eq_true rfl, Nat.le_of_ble_eq_true rfl⟩ 0 rfl rfl rfl hl.1 rfl (Nat.le_of_ble_eq_true rfl) ⟨Nat.zero_le _, Nat.zero_le _⟩ dX7_readsNoise_64 (fun H locs hz25 hP hD hS => ?_)
            refine lv_bipush (v := 44) hx hb dX7_readsNoise_67 (by decide) ?_
            obtain ⟨J77, hJ77, hF⟩ := q_jn_e hF
            have K77 : ∀ (t27 : Int32) (H : Heap) (locs : List Loc) (ls : Array Slot), lv_has ls 7 [(0, .ref (ad 0)), (3, .int v21), (4, .int v22)] → va_P D vwCl (q_WM cI ad x20) H → va_D A (q_WM cI ad x20) → va_S A s.heap H locs → J77 t27 = some res → W p l e { frames := 2, cells := 0, slots := 0, locals := 43 } s m args below meth c H locs 0 0 Q (F0 m 77 ls [.int t27]) := by
              clear hF; intro t27 H locs ls hl hP hD hS hF
              rw [hJ77] at hF
              try dsimp only at hF
              refine lv_istore (lv' := [(5, .int t27), (0, .ref (ad 0)), (3, .int v21), (4, .int v22)]) hx hb dX7_readsNoise_77 hl (by decide) rfl (fun ls hl => ?_)
              refine lv_aload_n hx hb dX7_readsNoise_79 rfl (lv_at hl 1 rfl) ?_
              refine qg_M_X7_ends hM hP fl_X7_60 dX7_readsNoise_80 ?_
              refine lv_iconst (v := 1) hx hb dX7_readsNoise_83 (by decide) ?_
              refine lv_iadd hx hb dX7_readsNoise_84 ?_
              refine lv_topi (fun v28 ev28 => ?_)
              have hF := q_let_e hF ev28
              refine lv_istore_n (lv' := [(2, .int v28), (5, .int t27), (0, .ref (ad 0)), (3, .int v21), (4, .int v22)]) hx hb dX7_readsNoise_85 rfl hl (by decide) rfl (fun ls hl => ?_)
              refine lv_goto (tgt := 10) hx hb dX7_readsNoise_86 (by decide) ?_
              exact ih _ _ _ _ _ _ _ _ (lv_sub hl [2, 0, 3, 4, 1] rfl) hP hD hS hk hF
            refine lv_icmp_ne (tgt := 76) hx hb dX7_readsNoise_69 (by decide) (fun c26 => ?_) (fun c26 => ?_)
            · have hF := q_ie hF c26
              refine lv_iconst (v := 0) hx hb dX7_readsNoise_76 (by decide) ?_
              exact K77 _ _ _ _ (lv_sub hl [3, 1, 0] rfl) hP hD hS hF
            · have hF := q_it hF c26
              refine lv_iconst (v := 1) hx hb dX7_readsNoise_72 (by decide) ?_
              refine lv_goto (tgt := 77) hx hb dX7_readsNoise_73 (by decide) ?_
              exact K77 _ _ _ _ (lv_sub hl [3, 1, 0] rfl) hP hD hS hF
          · have hF := q_it hF c18
            refine lv_iconst (v := 0) hx hb dX7_readsNoise_40 (by decide) ?_
            exact hRet ((0 : Int32), x11) _ _ _ _ hF narrow_b0 dX7_readsNoise_41 hP hD hS
  refine L10 _ _ _ _ _ _ _ _ _ _ (lv_sub hl [4, 3, 2, 1, 0] rfl) hP hD hS ?_ hF
  clear hF
  intro e5 e6 x8 H locs ls hl hP hD hS hF
  refine lv_aload_n hx hb dX7_readsNoise_89 rfl (lv_at hl 0 rfl) ?_
  refine lv_iload hx hb dX7_readsNoise_90 (lv_at hl 2 rfl) ?_
  refine qp_M_X7_readNoises hM hP hD hS fl_X7_45 dX7_readsNoise_92 (fun x29 H locs ex29 hP hD hS => ?_)
  have hF := q_let_e hF ex29
  refine lv_iload hx hb dX7_readsNoise_95 (lv_at hl 2 rfl) ?_
  refine lv_iconst (v := 1) hx hb dX7_readsNoise_97 (by decide) ?_
  refine lv_icmp_le (tgt := 115) hx hb dX7_readsNoise_98 (by decide) (fun c30 => ?_) (fun c30 => ?_)
  · have hF := q_it hF c30
    refine lv_iconst (v := 0) hx hb dX7_readsNoise_115 (by decide) ?_
    exact hRet ((0 : Int32), x29) _ _ _ _ hF narrow_b0 dX7_readsNoise_116 hP hD hS
  · have hF := q_ie hF c30
    refine lv_iload_n hx hb dX7_readsNoise_101 rfl (lv_at hl 1 rfl) ?_
    refine lv_iconst (v := 1) hx hb dX7_readsNoise_102 (by decide) ?_
    refine lv_bipush (v := 16) hx hb dX7_readsNoise_103 (by decide) ?_
    obtain ⟨r31, hC32, hF⟩ := q_b1_e hF
    refine q_calliS hM (c_X7_isIn l D cI cJ g (q_WM cI ad x29) _ _ _ _ hC32) hP hD hS ky_X7_isIn ml_X7_76 rfl rfl ⟨Nat.le_of_ble_eq_true rfl, Nat.le_of_ble_eq_true rfl⟩ rfl hl.1 rfl (Nat.le_of_ble_eq_true rfl) ⟨Nat.zero_le _, Nat.zero_le _⟩ dX7_readsNoise_105 (fun H locs hz33 hP hD hS => ?_)
    refine lv_if_eq (tgt := 115) hx hb dX7_readsNoise_108 (by decide) (fun c34 => ?_) (fun c34 => ?_)
    · have hF := q_it hF c34
      refine lv_iconst (v := 0) hx hb dX7_readsNoise_115 (by decide) ?_
      exact hRet ((0 : Int32), x29) _ _ _ _ hF narrow_b0 dX7_readsNoise_116 hP hD hS
    · have hF := q_ie hF c34
      refine lv_iconst (v := 1) hx hb dX7_readsNoise_111 (by decide) ?_
      refine lv_goto (tgt := 116) hx hb dX7_readsNoise_112 (by decide) ?_
      exact hRet ((1 : Int32), x29) _ _ _ _ hF narrow_b1 dX7_readsNoise_116 hP hD hS
theorem ky_X7_readsItem : q_Y yX7_readsItem cX7_readsItem 2 (some .boolean) 1 := ⟨cw_X7_readsItem, im_X7_readsItem, se_X7_readsItem, in_X7, by decide +kernel⟩
set_option maxHeartbeats 4000000 in
set_option maxRecDepth 100000 in
theorem c_X7_readsItem (l : Launch) (D : va_G) (cI cJ : ClassId) (g : Nat → Nat) (ad : Nat → Nat) (x : IS) (a1 : Int32) (res : Int32 × IS) (hF : f_X7_readsItem x a1 = some res) : q_Mi l yX7_readsItem cX7_readsItem 2 .boolean { frames := 3, cells := 0, slots := 0, locals := 70 } D cI cJ g (q_WM cI ad x) [.ref (ad 0), .int a1] (res.1) (q_WM cI ad (res.2)) := by
  refine q_ofi (res := res) (fun u : Int32 × IS => u.1) (fun u : Int32 × IS => (q_WM cI ad (u.2))) pl_X7 (Nat.le_of_ble_eq_true rfl) ?_
  intro p e s m args below meth c A Q hM hRet ls hl hP hD hS
  have hx := hM.1.1
  have hb := hM.1.2.1
  have hl : lv_has ls 2 [(0, .ref (ad 0)), (1, .int a1)] := hl
  unfold f_X7_readsItem at hF
  refine lv_aload_n hx hb dX7_readsItem_0 rfl (lv_at hl 0 rfl) ?_
  refine lv_iload_n hx hb dX7_readsItem_1 rfl (lv_at hl 1 rfl) ?_
  refine lv_iconst (v := 4) hx hb dX7_readsItem_2 (by decide) ?_
  refine lv_iadd hx hb dX7_readsItem_3 ?_
  obtain ⟨r1, hC2, hF⟩ := q_b1_e hF
  refine q_calli hM (c_X7_letterAt l D cI cJ g ad _ _ _ hC2) hP hD hS ky_X7_letterAt ml_X7_63 rfl rfl ⟨Nat.le_of_ble_eq_true rfl, Nat.le_of_ble_eq_true rfl⟩ 0 rfl rfl rfl hl.1 rfl (Nat.le_of_ble_eq_true rfl) ⟨Nat.zero_le _, Nat.zero_le _⟩ dX7_readsItem_4 (fun H locs hz3 hP hD hS => ?_)
  refine lv_bipush (v := 32) hx hb dX7_readsItem_7 (by decide) ?_
  refine lv_icmp_eq (tgt := 14) hx hb dX7_readsItem_9 (by decide) (fun c4 => ?_) (fun c4 => ?_)
  · have hF := q_it hF c4
    refine lv_aload_n hx hb dX7_readsItem_14 rfl (lv_at hl 0 rfl) ?_
    refine lv_iload_n hx hb dX7_readsItem_15 rfl (lv_at hl 1 rfl) ?_
    refine lv_bipush (v := 99) hx hb dX7_readsItem_16 (by decide) ?_
    refine lv_bipush (v := 101) hx hb dX7_readsItem_18 (by decide) ?_
    refine lv_bipush (v := 108) hx hb dX7_readsItem_20 (by decide) ?_
    refine lv_bipush (v := 108) hx hb dX7_readsItem_22 (by decide) ?_
    obtain ⟨r5, hC6, hF⟩ := q_b1_e hF
    refine q_calli hM (c_X7_isWord l D cI cJ g ad _ _ _ _ _ _ _ hC6) hP hD hS ky_X7_isWord ml_X7_80 rfl rfl ⟨Nat.le_of_ble_eq_true rfl, Nat.le_of_ble_eq_true rfl⟩ 0 rfl rfl rfl hl.1 rfl (Nat.le_of_ble_eq_true rfl) ⟨Nat.zero_le _, Nat.zero_le _⟩ dX7_readsItem_24 (fun H locs hz7 hP hD hS => ?_)
    refine lv_if_eq (tgt := 38) hx hb dX7_readsItem_27 (by decide) (fun c8 => ?_) (fun c8 => ?_)
    · have hF := q_it hF c8
      refine lv_aload_n hx hb dX7_readsItem_38 rfl (lv_at hl 0 rfl) ?_
      refine lv_iload_n hx hb dX7_readsItem_39 rfl (lv_at hl 1 rfl) ?_
      refine lv_bipush (v := 108) hx hb dX7_readsItem_40 (by decide) ?_
      refine lv_bipush (v := 111) hx hb dX7_readsItem_42 (by decide) ?_
      refine lv_bipush (v := 111) hx hb dX7_readsItem_44 (by decide) ?_
      refine lv_bipush (v := 107) hx hb dX7_readsItem_46 (by decide) ?_
      obtain ⟨r9, hC10, hF⟩ := q_b1_e hF
      refine q_calli hM (c_X7_isWord l D cI cJ g ad _ _ _ _ _ _ _ hC10) hP hD hS ky_X7_isWord ml_X7_80 rfl rfl ⟨Nat.le_of_ble_eq_true rfl, Nat.le_of_ble_eq_true rfl⟩ 0 rfl rfl rfl hl.1 rfl (Nat.le_of_ble_eq_true rfl) ⟨Nat.zero_le _, Nat.zero_le _⟩ dX7_readsItem_48 (fun H locs hz11 hP hD hS => ?_)
      refine lv_if_eq (tgt := 62) hx hb dX7_readsItem_51 (by decide) (fun c12 => ?_) (fun c12 => ?_)
      · have hF := q_it hF c12
        refine lv_aload_n hx hb dX7_readsItem_62 rfl (lv_at hl 0 rfl) ?_
        refine lv_iload_n hx hb dX7_readsItem_63 rfl (lv_at hl 1 rfl) ?_
        refine lv_bipush (v := 109) hx hb dX7_readsItem_64 (by decide) ?_
        refine lv_bipush (v := 111) hx hb dX7_readsItem_66 (by decide) ?_
        refine lv_bipush (v := 100) hx hb dX7_readsItem_68 (by decide) ?_
        refine lv_bipush (v := 101) hx hb dX7_readsItem_70 (by decide) ?_
        obtain ⟨r13, hC14, hF⟩ := q_b1_e hF
        refine q_calli hM (c_X7_isWord l D cI cJ g ad _ _ _ _ _ _ _ hC14) hP hD hS ky_X7_isWord ml_X7_80 rfl rfl ⟨Nat.le_of_ble_eq_true rfl, Nat.le_of_ble_eq_true rfl⟩ 0 rfl rfl rfl hl.1 rfl (Nat.le_of_ble_eq_true rfl) ⟨Nat.zero_le _, Nat.zero_le _⟩ dX7_readsItem_72 (fun H locs hz15 hP hD hS => ?_)
        refine lv_if_eq (tgt := 86) hx hb dX7_readsItem_75 (by decide) (fun c16 => ?_) (fun c16 => ?_)
        · have hF := q_it hF c16
          refine lv_aload_n hx hb dX7_readsItem_86 rfl (lv_at hl 0 rfl) ?_
          refine lv_iload_n hx hb dX7_readsItem_87 rfl (lv_at hl 1 rfl) ?_
          refine lv_bipush (v := 100) hx hb dX7_readsItem_88 (by decide) ?_
          refine lv_bipush (v := 105) hx hb dX7_readsItem_90 (by decide) ?_
          refine lv_bipush (v := 99) hx hb dX7_readsItem_92 (by decide) ?_
          refine lv_bipush (v := 101) hx hb dX7_readsItem_94 (by decide) ?_
          obtain ⟨r17, hC18, hF⟩ := q_b1_e hF
          refine q_calli hM (c_X7_isWord l D cI cJ g ad _ _ _ _ _ _ _ hC18) hP hD hS ky_X7_isWord ml_X7_80 rfl rfl ⟨Nat.le_of_ble_eq_true rfl, Nat.le_of_ble_eq_true rfl⟩ 0 rfl rfl rfl hl.1 rfl (Nat.le_of_ble_eq_true rfl) ⟨Nat.zero_le _, Nat.zero_le _⟩ dX7_readsItem_96 (fun H locs hz19 hP hD hS => ?_)
          refine lv_if_eq (tgt := 116) hx hb dX7_readsItem_99 (by decide) (fun c20 => ?_) (fun c20 => ?_)
          · have hF := q_it hF c20
            refine lv_iconst (v := 0) hx hb dX7_readsItem_116 (by decide) ?_
            exact hRet ((0 : Int32), x) _ _ _ _ hF narrow_b0 dX7_readsItem_117 hP hD hS
          · have hF := q_ie hF c20
            refine lv_aload_n hx hb dX7_readsItem_102 rfl (lv_at hl 0 rfl) ?_
            refine lv_iload_n hx hb dX7_readsItem_103 rfl (lv_at hl 1 rfl) ?_
            refine lv_iconst (v := 5) hx hb dX7_readsItem_104 (by decide) ?_
            refine lv_iadd hx hb dX7_readsItem_105 ?_
            obtain ⟨r21, x22, hC23, hF⟩ := q_b2_e hF
            refine q_calli hM (c_X7_readsNoise l D cI cJ g ad _ _ _ hC23) hP hD hS ky_X7_readsNoise ml_X7_94 rfl rfl ⟨Nat.le_of_ble_eq_true rfl, Nat.le_of_ble_eq_true rfl⟩ 0 rfl rfl rfl hl.1 rfl (Nat.le_of_ble_eq_true rfl) ⟨Nat.zero_le _, Nat.zero_le _⟩ dX7_readsItem_106 (fun H locs hz24 hP hD hS => ?_)
            refine lv_if_eq (tgt := 116) hx hb dX7_readsItem_109 (by decide) (fun c25 => ?_) (fun c25 => ?_)
            · have hF := q_it hF c25
              refine lv_iconst (v := 0) hx hb dX7_readsItem_116 (by decide) ?_
              exact hRet ((0 : Int32), x22) _ _ _ _ hF narrow_b0 dX7_readsItem_117 hP hD hS
            · have hF := q_ie hF c25
              refine lv_iconst (v := 1) hx hb dX7_readsItem_112 (by decide) ?_
              refine lv_goto (tgt := 117) hx hb dX7_readsItem_113 (by decide) ?_
              exact hRet ((1 : Int32), x22) _ _ _ _ hF narrow_b1 dX7_readsItem_117 hP hD hS
        · have hF := q_ie hF c16
          refine lv_aload_n hx hb dX7_readsItem_78 rfl (lv_at hl 0 rfl) ?_
          refine lv_iload_n hx hb dX7_readsItem_79 rfl (lv_at hl 1 rfl) ?_
          refine lv_iconst (v := 5) hx hb dX7_readsItem_80 (by decide) ?_
          refine lv_iadd hx hb dX7_readsItem_81 ?_
          obtain ⟨r26, x27, hC28, hF⟩ := q_b2_e hF
          refine q_calli hM (c_X7_readsMode l D cI cJ g ad _ _ _ hC28) hP hD hS ky_X7_readsMode ml_X7_91 rfl rfl ⟨Nat.le_of_ble_eq_true rfl, Nat.le_of_ble_eq_true rfl⟩ 0 rfl rfl rfl hl.1 rfl (Nat.le_of_ble_eq_true rfl) ⟨Nat.zero_le _, Nat.zero_le _⟩ dX7_readsItem_82 (fun H locs hz29 hP hD hS => ?_)
          exact hRet (r26, x27) _ _ _ _ hF hz29 dX7_readsItem_85 hP hD hS
      · have hF := q_ie hF c12
        refine lv_aload_n hx hb dX7_readsItem_54 rfl (lv_at hl 0 rfl) ?_
        refine lv_iload_n hx hb dX7_readsItem_55 rfl (lv_at hl 1 rfl) ?_
        refine lv_iconst (v := 5) hx hb dX7_readsItem_56 (by decide) ?_
        refine lv_iadd hx hb dX7_readsItem_57 ?_
        obtain ⟨r30, x31, hC32, hF⟩ := q_b2_e hF
        refine q_calli hM (c_X7_readsLook l D cI cJ g ad _ _ _ hC32) hP hD hS ky_X7_readsLook ml_X7_88 rfl rfl ⟨Nat.le_of_ble_eq_true rfl, Nat.le_of_ble_eq_true rfl⟩ 0 rfl rfl rfl hl.1 rfl (Nat.le_of_ble_eq_true rfl) ⟨Nat.zero_le _, Nat.zero_le _⟩ dX7_readsItem_58 (fun H locs hz33 hP hD hS => ?_)
        exact hRet (r30, x31) _ _ _ _ hF hz33 dX7_readsItem_61 hP hD hS
    · have hF := q_ie hF c8
      refine lv_aload_n hx hb dX7_readsItem_30 rfl (lv_at hl 0 rfl) ?_
      refine lv_iload_n hx hb dX7_readsItem_31 rfl (lv_at hl 1 rfl) ?_
      refine lv_iconst (v := 5) hx hb dX7_readsItem_32 (by decide) ?_
      refine lv_iadd hx hb dX7_readsItem_33 ?_
      obtain ⟨r34, x35, hC36, hF⟩ := q_b2_e hF
      refine q_calli hM (c_X7_readsCells l D cI cJ g ad _ _ _ hC36) hP hD hS ky_X7_readsCells ml_X7_84 rfl rfl ⟨Nat.le_of_ble_eq_true rfl, Nat.le_of_ble_eq_true rfl⟩ 0 rfl rfl rfl hl.1 rfl (Nat.le_of_ble_eq_true rfl) ⟨Nat.zero_le _, Nat.zero_le _⟩ dX7_readsItem_34 (fun H locs hz37 hP hD hS => ?_)
      exact hRet (r34, x35) _ _ _ _ hF hz37 dX7_readsItem_37 hP hD hS
  · have hF := q_ie hF c4
    refine lv_iconst (v := 0) hx hb dX7_readsItem_12 (by decide) ?_
    exact hRet ((0 : Int32), x) _ _ _ _ hF narrow_b0 dX7_readsItem_13 hP hD hS
theorem ky_X7_reads : q_Y yX7_reads cX7_reads 2 (some .int) 0 := ⟨cw_X7_reads, im_X7_reads, se_X7_reads, in_X7, by decide +kernel⟩
set_option maxHeartbeats 4000000 in
set_option maxRecDepth 100000 in
theorem c_X7_reads (l : Launch) (D : va_G) (cI cJ : ClassId) (g : Nat → Nat) (ad : Nat → Nat) (x : IS) (res : Int32 × IS) (hF : f_X7_reads x = some res) : q_Mi l yX7_reads cX7_reads 2 .int { frames := 4, cells := 0, slots := 0, locals := 91 } D cI cJ g (q_WM cI ad x) [.ref (ad 0)] (res.1) (q_WM cI ad (res.2)) := by
  refine q_ofi (res := res) (fun u : Int32 × IS => u.1) (fun u : Int32 × IS => (q_WM cI ad (u.2))) pl_X7 (Nat.le_of_ble_eq_true rfl) ?_
  intro p e s m args below meth c A Q hM hRet ls hl hP hD hS
  have hx := hM.1.1
  have hb := hM.1.2.1
  have hl : lv_has ls 2 [(0, .ref (ad 0))] := hl
  unfold f_X7_reads at hF
  refine lv_aload_n hx hb dX7_reads_0 rfl (lv_at hl 0 rfl) ?_
  obtain ⟨x1, hC2, hF⟩ := q_b1_e hF
  refine q_callv hM (c_X7_clears l D cI cJ g ad _ _ hC2) hP hD hS ky_X7_clears ml_X7_31 rfl rfl ⟨Nat.le_of_ble_eq_true rfl, Nat.le_of_ble_eq_true rfl⟩ 0 rfl rfl rfl hl.1 rfl (Nat.le_of_ble_eq_true rfl) ⟨Nat.zero_le _, Nat.zero_le _⟩ dX7_reads_1 (fun H locs hP hD hS => ?_)
  refine lv_iconst (v := 0) hx hb dX7_reads_4 (by decide) ?_
  refine lv_istore_n (lv' := [(1, .int (0 : Int32)), (0, .ref (ad 0))]) hx hb dX7_reads_5 rfl hl (by decide) rfl (fun ls hl => ?_)
  have L6 : ∀ (k : IS → Option (Int32 × IS)) (n : Nat) (v3 : Int32) (x4 : IS) (H : Heap) (locs : List Loc) (ls : Array Slot), lv_has ls 2 [(0, .ref (ad 0)), (1, .int v3)] → va_P D vwCl (q_WM cI ad x4) H → va_D A (q_WM cI ad x4) → va_S A s.heap H locs → (∀ (x5 : IS) (H : Heap) (locs : List Loc) (ls : Array Slot), lv_has ls 2 [] → va_P D vwCl (q_WM cI ad x5) H → va_D A (q_WM cI ad x5) → va_S A s.heap H locs → k x5 = some res → W p l e { frames := 4, cells := 0, slots := 0, locals := 91 } s m args below meth c H locs 0 0 Q (F0 m 47 ls [])) → f_X7_reads_L6 k n v3 x4 = some res → W p l e { frames := 4, cells := 0, slots := 0, locals := 91 } s m args below meth c H locs 0 0 Q (F0 m 6 ls []) := by
    intro k n
    induction n with
    | zero => intro v3 x4 H locs ls hl hP hD hS hk hF; exact q_no hF
    | succ n ih =>
      intro v3 x4 H locs ls hl hP hD hS hk hF
      have hF : f_X7_reads_L6F k (f_X7_reads_L6 k n) v3 x4 = some res := hF
      unfold f_X7_reads_L6F at hF
      refine lv_iload_n hx hb dX7_reads_6 rfl (lv_at hl 1 rfl) ?_
      refine lv_aload_n hx hb dX7_reads_7 rfl (lv_at hl 0 rfl) ?_
      refine qg_M_X7_length hM hP fl_X7_57 dX7_reads_8 ?_
      refine lv_icmp_ge (tgt := 47) hx hb dX7_reads_11 (by decide) (fun c6 => ?_) (fun c6 => ?_)
      · have hF := q_it hF c6
        exact hk _ _ _ _ (lv_sub hl [] rfl) hP hD hS hF
      · have hF := q_ie hF c6
        refine lv_aload_n hx hb dX7_reads_14 rfl (lv_at hl 0 rfl) ?_
        refine lv_iload_n hx hb dX7_reads_15 rfl (lv_at hl 1 rfl) ?_
        obtain ⟨r7, x8, hC9, hF⟩ := q_b2_e hF
        refine q_calli hM (c_X7_readsItem l D cI cJ g ad _ _ _ hC9) hP hD hS ky_X7_readsItem ml_X7_97 rfl rfl ⟨Nat.le_of_ble_eq_true rfl, Nat.le_of_ble_eq_true rfl⟩ 0 rfl rfl rfl hl.1 rfl (Nat.le_of_ble_eq_true rfl) ⟨Nat.zero_le _, Nat.zero_le _⟩ dX7_reads_16 (fun H locs hz10 hP hD hS => ?_)
        refine lv_if_eq (tgt := 35) hx hb dX7_reads_19 (by decide) (fun c11 => ?_) (fun c11 => ?_)
        · have hF := q_it hF c11
          refine lv_iload_n hx hb dX7_reads_35 rfl (lv_at hl 1 rfl) ?_
          exact hRet (v3, x8) _ _ _ _ hF rfl dX7_reads_36 hP hD hS
        · have hF := q_ie hF c11
          refine lv_aload_n hx hb dX7_reads_22 rfl (lv_at hl 0 rfl) ?_
          refine lv_aload_n hx hb dX7_reads_23 rfl (lv_at hl 0 rfl) ?_
          refine qg_M_X7_ends hM hP fl_X7_60 dX7_reads_24 ?_
          obtain ⟨r12, hC13, hF⟩ := q_b1_e hF
          refine q_calli hM (c_X7_letterAt l D cI cJ g ad _ _ _ hC13) hP hD hS ky_X7_letterAt ml_X7_63 rfl rfl ⟨Nat.le_of_ble_eq_true rfl, Nat.le_of_ble_eq_true rfl⟩ 0 rfl rfl rfl hl.1 rfl (Nat.le_of_ble_eq_true rfl) ⟨Nat.zero_le _, Nat.zero_le _⟩ dX7_reads_27 (fun H locs hz14 hP hD hS => ?_)
          refine lv_bipush (v := 59) hx hb dX7_reads_30 (by decide) ?_
          refine lv_icmp_eq (tgt := 37) hx hb dX7_reads_32 (by decide) (fun c15 => ?_) (fun c15 => ?_)
          · have hF := q_it hF c15
            refine lv_aload_n hx hb dX7_reads_37 rfl (lv_at hl 0 rfl) ?_
            refine qg_M_X7_ends hM hP fl_X7_60 dX7_reads_38 ?_
            refine lv_iconst (v := 1) hx hb dX7_reads_41 (by decide) ?_
            refine lv_iadd hx hb dX7_reads_42 ?_
            refine lv_topi (fun v16 ev16 => ?_)
            have hF := q_let_e hF ev16
            refine lv_istore_n (lv' := [(1, .int v16), (0, .ref (ad 0))]) hx hb dX7_reads_43 rfl hl (by decide) rfl (fun ls hl => ?_)
            refine lv_goto (tgt := 6) hx hb dX7_reads_44 (by decide) ?_
            exact ih _ _ _ _ _ (lv_sub hl [1, 0] rfl) hP hD hS hk hF
          · have hF := q_ie hF c15
            refine lv_iload_n hx hb dX7_reads_35 rfl (lv_at hl 1 rfl) ?_
            exact hRet (v3, x8) _ _ _ _ hF rfl dX7_reads_36 hP hD hS
  refine L6 _ _ _ _ _ _ _ (lv_sub hl [1, 0] rfl) hP hD hS ?_ hF
  clear hF
  intro x5 H locs ls hl hP hD hS hF
  refine lv_bipush (v := -4) hx hb dX7_reads_47 (by decide) ?_
  exact hRet ((-4 : Int32), x5) _ _ _ _ hF rfl dX7_reads_49 hP hD hS
theorem ky_X7_write : q_Y yX7_write cX7_write 2 (some .int) 1 := ⟨cw_X7_write, im_X7_write, se_X7_write, in_X7, by decide +kernel⟩
set_option maxHeartbeats 4000000 in
set_option maxRecDepth 100000 in
theorem c_X7_write (l : Launch) (D : va_G) (cI cJ : ClassId) (g : Nat → Nat) (ad : Nat → Nat) (x : IS) (a1 : Int32) (res : Int32 × IS) (hF : f_X7_write x a1 = some res) : q_Mi l yX7_write cX7_write 2 .int { frames := 0, cells := 0, slots := 0, locals := 0 } D cI cJ g (q_WM cI ad x) [.ref (ad 0), .int a1] (res.1) (q_WM cI ad (res.2)) := by
  refine q_ofi (res := res) (fun u : Int32 × IS => u.1) (fun u : Int32 × IS => (q_WM cI ad (u.2))) pl_X7 (Nat.le_of_ble_eq_true rfl) ?_
  intro p e s m args below meth c A Q hM hRet ls hl hP hD hS
  have hx := hM.1.1
  have hb := hM.1.2.1
  have hl : lv_has ls 2 [(0, .ref (ad 0)), (1, .int a1)] := hl
  unfold f_X7_write at hF
  refine lv_iload_n hx hb dX7_write_0 rfl (lv_at hl 1 rfl) ?_
  refine lv_bipush (v := 32) hx hb dX7_write_1 (by decide) ?_
  refine lv_icmp_lt (tgt := 12) hx hb dX7_write_3 (by decide) (fun c1 => ?_) (fun c1 => ?_)
  · have hF := q_it hF c1
    refine lv_iconst (v := -1) hx hb dX7_write_12 (by decide) ?_
    exact hRet ((-1 : Int32), x) _ _ _ _ hF rfl dX7_write_13 hP hD hS
  · have hF := q_ie hF c1
    refine lv_iload_n hx hb dX7_write_6 rfl (lv_at hl 1 rfl) ?_
    refine lv_bipush (v := 126) hx hb dX7_write_7 (by decide) ?_
    refine lv_icmp_le (tgt := 14) hx hb dX7_write_9 (by decide) (fun c2 => ?_) (fun c2 => ?_)
    · have hF := q_it hF c2
      refine lv_aload_n hx hb dX7_write_14 rfl (lv_at hl 0 rfl) ?_
      refine qg_M_X7_length hM hP fl_X7_57 dX7_write_15 ?_
      refine lv_sipush (v := 200) hx hb dX7_write_18 (by decide) ?_
      refine lv_icmp_ne (tgt := 27) hx hb dX7_write_21 (by decide) (fun c3 => ?_) (fun c3 => ?_)
      · have hF := q_ie hF c3
        refine lv_aload_n hx hb dX7_write_27 rfl (lv_at hl 0 rfl) ?_
        refine qg_M_X7_text hM hP fl_X7_7 dX7_write_28 ?_
        refine lv_aload_n hx hb dX7_write_31 rfl (lv_at hl 0 rfl) ?_
        refine qg_M_X7_length hM hP fl_X7_57 dX7_write_32 ?_
        refine lv_iload_n hx hb dX7_write_35 rfl (lv_at hl 1 rfl) ?_
        obtain ⟨h4, hF⟩ := q_gd_e hF
        refine qs_M_X7_text hM hP hD hS h4 dX7_write_36 (fun x5 H locs ex5 hP hD hS => ?_)
        have hF := q_let_e hF ex5
        refine lv_aload_n hx hb dX7_write_37 rfl (lv_at hl 0 rfl) ?_
        refine lv_dup hx hb dX7_write_38 rfl ?_
        refine qg_M_X7_length hM hP fl_X7_57 dX7_write_39 ?_
        refine lv_iconst (v := 1) hx hb dX7_write_42 (by decide) ?_
        refine lv_iadd hx hb dX7_write_43 ?_
        refine qp_M_X7_length hM hP hD hS fl_X7_57 dX7_write_44 (fun x6 H locs ex6 hP hD hS => ?_)
        have hF := q_let_e hF ex6
        refine lv_aload_n hx hb dX7_write_47 rfl (lv_at hl 0 rfl) ?_
        refine qg_M_X7_length hM hP fl_X7_57 dX7_write_48 ?_
        exact hRet ((x6 0 0), x6) _ _ _ _ hF rfl dX7_write_51 hP hD hS
      · have hF := q_it hF c3
        refine lv_bipush (v := -3) hx hb dX7_write_24 (by decide) ?_
        exact hRet ((-3 : Int32), x) _ _ _ _ hF rfl dX7_write_26 hP hD hS
    · have hF := q_ie hF c2
      refine lv_iconst (v := -1) hx hb dX7_write_12 (by decide) ?_
      exact hRet ((-1 : Int32), x) _ _ _ _ hF rfl dX7_write_13 hP hD hS
theorem ky_X7_wipe : q_Y yX7_wipe cX7_wipe 2 (some .int) 0 := ⟨cw_X7_wipe, im_X7_wipe, se_X7_wipe, in_X7, by decide +kernel⟩
set_option maxHeartbeats 4000000 in
set_option maxRecDepth 100000 in
theorem c_X7_wipe (l : Launch) (D : va_G) (cI cJ : ClassId) (g : Nat → Nat) (ad : Nat → Nat) (x : IS) (res : Int32 × IS) (hF : f_X7_wipe x = some res) : q_Mi l yX7_wipe cX7_wipe 2 .int { frames := 0, cells := 0, slots := 0, locals := 0 } D cI cJ g (q_WM cI ad x) [.ref (ad 0)] (res.1) (q_WM cI ad (res.2)) := by
  refine q_ofi (res := res) (fun u : Int32 × IS => u.1) (fun u : Int32 × IS => (q_WM cI ad (u.2))) pl_X7 (Nat.le_of_ble_eq_true rfl) ?_
  intro p e s m args below meth c A Q hM hRet ls hl hP hD hS
  have hx := hM.1.1
  have hb := hM.1.2.1
  have hl : lv_has ls 2 [(0, .ref (ad 0))] := hl
  unfold f_X7_wipe at hF
  refine lv_aload_n hx hb dX7_wipe_0 rfl (lv_at hl 0 rfl) ?_
  refine qg_M_X7_length hM hP fl_X7_57 dX7_wipe_1 ?_
  refine lv_topi (fun v1 ev1 => ?_)
  have hF := q_let_e hF ev1
  refine lv_istore_n (lv' := [(1, .int v1), (0, .ref (ad 0))]) hx hb dX7_wipe_4 rfl hl (by decide) rfl (fun ls hl => ?_)
  refine lv_aload_n hx hb dX7_wipe_5 rfl (lv_at hl 1 rfl) ?_
  refine lv_iconst (v := 0) hx hb dX7_wipe_6 (by decide) ?_
  refine qp_M_X7_length hM hP hD hS fl_X7_57 dX7_wipe_7 (fun x2 H locs ex2 hP hD hS => ?_)
  have hF := q_let_e hF ex2
  refine lv_iload_n hx hb dX7_wipe_10 rfl (lv_at hl 0 rfl) ?_
  exact hRet (v1, x2) _ _ _ _ hF rfl dX7_wipe_11 hP hD hS
theorem ky_X7_fault : q_Y yX7_fault cX7_fault 1 (some .int) 0 := ⟨cw_X7_fault, im_X7_fault, se_X7_fault, in_X7, by decide +kernel⟩
set_option maxHeartbeats 4000000 in
set_option maxRecDepth 100000 in
theorem c_X7_fault (l : Launch) (D : va_G) (cI cJ : ClassId) (g : Nat → Nat) (ad : Nat → Nat) (x : IS) (res : Int32 × IS) (hF : f_X7_fault x = some res) : q_Mi l yX7_fault cX7_fault 1 .int { frames := 5, cells := 0, slots := 0, locals := 112 } D cI cJ g (q_WM cI ad x) [.ref (ad 0)] (res.1) (q_WM cI ad (res.2)) := by
  refine q_ofi (res := res) (fun u : Int32 × IS => u.1) (fun u : Int32 × IS => (q_WM cI ad (u.2))) pl_X7 (Nat.le_of_ble_eq_true rfl) ?_
  intro p e s m args below meth c A Q hM hRet ls hl hP hD hS
  have hx := hM.1.1
  have hb := hM.1.2.1
  have hl : lv_has ls 1 [(0, .ref (ad 0))] := hl
  unfold f_X7_fault at hF
  refine lv_aload_n hx hb dX7_fault_0 rfl (lv_at hl 0 rfl) ?_
  obtain ⟨r1, x2, hC3, hF⟩ := q_b2_e hF
  refine q_calli hM (c_X7_reads l D cI cJ g ad _ _ hC3) hP hD hS ky_X7_reads ml_X7_100 rfl rfl ⟨Nat.le_of_ble_eq_true rfl, Nat.le_of_ble_eq_true rfl⟩ 0 rfl rfl rfl hl.1 rfl (Nat.le_of_ble_eq_true rfl) ⟨Nat.zero_le _, Nat.zero_le _⟩ dX7_fault_1 (fun H locs hz4 hP hD hS => ?_)
  exact hRet (r1, x2) _ _ _ _ hF rfl dX7_fault_4 hP hD hS
theorem ky_X7_lay : q_Y yX7_lay cX7_lay 1 (some .int) 0 := ⟨cw_X7_lay, im_X7_lay, se_X7_lay, in_X7, by decide +kernel⟩
set_option maxHeartbeats 4000000 in
set_option maxRecDepth 100000 in
theorem c_X7_lay (l : Launch) (D : va_G) (cI cJ : ClassId) (g : Nat → Nat) (ad : Nat → Nat) (x : IS) (res : Int32 × IS) (hF : f_X7_lay x = some res) : q_Mi l yX7_lay cX7_lay 1 .int { frames := 5, cells := 0, slots := 0, locals := 112 } D cI cJ g (q_WM cI ad x) [.ref (ad 0)] (res.1) (q_WM cI ad (res.2)) := by
  refine q_ofi (res := res) (fun u : Int32 × IS => u.1) (fun u : Int32 × IS => (q_WM cI ad (u.2))) pl_X7 (Nat.le_of_ble_eq_true rfl) ?_
  intro p e s m args below meth c A Q hM hRet ls hl hP hD hS
  have hx := hM.1.1
  have hb := hM.1.2.1
  have hl : lv_has ls 1 [(0, .ref (ad 0))] := hl
  unfold f_X7_lay at hF
  refine lv_aload_n hx hb dX7_lay_0 rfl (lv_at hl 0 rfl) ?_
  obtain ⟨r1, x2, hC3, hF⟩ := q_b2_e hF
  refine q_calli hM (c_X7_reads l D cI cJ g ad _ _ hC3) hP hD hS ky_X7_reads ml_X7_100 rfl rfl ⟨Nat.le_of_ble_eq_true rfl, Nat.le_of_ble_eq_true rfl⟩ 0 rfl rfl rfl hl.1 rfl (Nat.le_of_ble_eq_true rfl) ⟨Nat.zero_le _, Nat.zero_le _⟩ dX7_lay_1 (fun H locs hz4 hP hD hS => ?_)
  refine lv_bipush (v := -4) hx hb dX7_lay_4 (by decide) ?_
  refine lv_icmp_ne (tgt := 16) hx hb dX7_lay_6 (by decide) (fun c5 => ?_) (fun c5 => ?_)
  · have hF := q_ie hF c5
    refine lv_bipush (v := -2) hx hb dX7_lay_16 (by decide) ?_
    exact hRet ((-2 : Int32), x2) _ _ _ _ hF rfl dX7_lay_18 hP hD hS
  · have hF := q_it hF c5
    refine lv_aload_n hx hb dX7_lay_9 rfl (lv_at hl 0 rfl) ?_
    refine qg_M_X7_readCells hM hP fl_X7_41 dX7_lay_10 ?_
    refine lv_if_ne (tgt := 19) hx hb dX7_lay_13 (by decide) (fun c6 => ?_) (fun c6 => ?_)
    · have hF := q_ie hF c6
      refine lv_aload_n hx hb dX7_lay_19 rfl (lv_at hl 0 rfl) ?_
      obtain ⟨x7, hC8, hF⟩ := q_b1_e hF
      refine q_callv hM (c_X7_takes l D cI cJ g ad _ _ hC8) hP hD hS ky_X7_takes ml_X7_38 rfl rfl ⟨Nat.le_of_ble_eq_true rfl, Nat.le_of_ble_eq_true rfl⟩ 0 rfl rfl rfl hl.1 rfl (Nat.le_of_ble_eq_true rfl) ⟨Nat.zero_le _, Nat.zero_le _⟩ dX7_lay_20 (fun H locs hP hD hS => ?_)
      refine lv_aload_n hx hb dX7_lay_23 rfl (lv_at hl 0 rfl) ?_
      refine qg_M_X7_cells hM hP fl_X7_48 dX7_lay_24 ?_
      exact hRet ((x7 2 0), x7) _ _ _ _ hF rfl dX7_lay_27 hP hD hS
    · have hF := q_it hF c6
      refine lv_bipush (v := -2) hx hb dX7_lay_16 (by decide) ?_
      exact hRet ((-2 : Int32), x2) _ _ _ _ hF rfl dX7_lay_18 hP hD hS
theorem ky_X7_keeps : q_Y yX7_keeps cX7_keeps 2 none 0 := ⟨cw_X7_keeps, im_X7_keeps, se_X7_keeps, in_X7, by decide +kernel⟩
set_option maxHeartbeats 4000000 in
set_option maxRecDepth 100000 in
theorem c_X7_keeps (l : Launch) (D : va_G) (cI cJ : ClassId) (g : Nat → Nat) (ad : Nat → Nat) (x : IS) (res : IS) (hF : f_X7_keeps x = some res) : q_Mv l yX7_keeps cX7_keeps 2 { frames := 0, cells := 0, slots := 0, locals := 0 } D cI cJ g (q_WM cI ad x) [.ref (ad 0)] (q_WM cI ad res) := by
  refine q_ofv (res := res) (fun u : IS => (q_WM cI ad u)) pl_X7 (Nat.le_of_ble_eq_true rfl) ?_
  intro p e s m args below meth c A Q hM hRet ls hl hP hD hS
  have hx := hM.1.1
  have hb := hM.1.2.1
  have hl : lv_has ls 2 [(0, .ref (ad 0))] := hl
  unfold f_X7_keeps at hF
  refine lv_aload_n hx hb dX7_keeps_0 rfl (lv_at hl 0 rfl) ?_
  refine qg_M_X7_changes hM hP fl_X7_54 dX7_keeps_1 ?_
  refine lv_bipush (v := 6) hx hb dX7_keeps_4 (by decide) ?_
  obtain ⟨J49, hJ49, hF⟩ := q_jn_e hF
  have K49 : ∀ (x11 : IS) (H : Heap) (locs : List Loc) (ls : Array Slot), lv_has ls 2 [(0, .ref (ad 0))] → va_P D vwCl (q_WM cI ad x11) H → va_D A (q_WM cI ad x11) → va_S A s.heap H locs → J49 x11 = some res → W p l e { frames := 0, cells := 0, slots := 0, locals := 0 } s m args below meth c H locs 0 0 Q (F0 m 49 ls []) := by
    clear hF; intro x11 H locs ls hl hP hD hS hF
    rw [hJ49] at hF
    try dsimp only at hF
    refine lv_iconst (v := 0) hx hb dX7_keeps_49 (by decide) ?_
    refine lv_istore_n (lv' := [(1, .int (0 : Int32)), (0, .ref (ad 0))]) hx hb dX7_keeps_50 rfl hl (by decide) rfl (fun ls hl => ?_)
    have L51 : ∀ (k : IS → Option (IS)) (n : Nat) (v12 : Int32) (x13 : IS) (H : Heap) (locs : List Loc) (ls : Array Slot), lv_has ls 2 [(0, .ref (ad 0)), (1, .int v12)] → va_P D vwCl (q_WM cI ad x13) H → va_D A (q_WM cI ad x13) → va_S A s.heap H locs → (∀ (x14 : IS) (H : Heap) (locs : List Loc) (ls : Array Slot), lv_has ls 2 [(0, .ref (ad 0))] → va_P D vwCl (q_WM cI ad x14) H → va_D A (q_WM cI ad x14) → va_S A s.heap H locs → k x14 = some res → W p l e { frames := 0, cells := 0, slots := 0, locals := 0 } s m args below meth c H locs 0 0 Q (F0 m 83 ls [])) → f_X7_keeps_L51 k n v12 x13 = some res → W p l e { frames := 0, cells := 0, slots := 0, locals := 0 } s m args below meth c H locs 0 0 Q (F0 m 51 ls []) := by
      intro k n
      induction n with
      | zero => intro v12 x13 H locs ls hl hP hD hS hk hF; exact q_no hF
      | succ n ih =>
        intro v12 x13 H locs ls hl hP hD hS hk hF
        have hF : f_X7_keeps_L51F k (f_X7_keeps_L51 k n) v12 x13 = some res := hF
        unfold f_X7_keeps_L51F at hF
        refine lv_iload_n hx hb dX7_keeps_51 rfl (lv_at hl 1 rfl) ?_
        refine lv_bipush (v := 102) hx hb dX7_keeps_52 (by decide) ?_
        refine lv_icmp_ge (tgt := 83) hx hb dX7_keeps_54 (by decide) (fun c15 => ?_) (fun c15 => ?_)
        · have hF := q_it hF c15
          exact hk _ _ _ _ (lv_sub hl [0] rfl) hP hD hS hF
        · have hF := q_ie hF c15
          refine lv_aload_n hx hb dX7_keeps_57 rfl (lv_at hl 0 rfl) ?_
          refine qg_M_X7_was hM hP fl_X7_19 dX7_keeps_58 ?_
          refine lv_bipush (v := 102) hx hb dX7_keeps_61 (by decide) ?_
          refine lv_aload_n hx hb dX7_keeps_63 rfl (lv_at hl 0 rfl) ?_
          refine qg_M_X7_changes hM hP fl_X7_54 dX7_keeps_64 ?_
          refine lv_imul hx hb dX7_keeps_67 ?_
          refine lv_iload_n hx hb dX7_keeps_68 rfl (lv_at hl 1 rfl) ?_
          refine lv_iadd hx hb dX7_keeps_69 ?_
          refine lv_aload_n hx hb dX7_keeps_70 rfl (lv_at hl 0 rfl) ?_
          refine qg_M_X7_now hM hP fl_X7_16 dX7_keeps_71 ?_
          refine lv_iload_n hx hb dX7_keeps_74 rfl (lv_at hl 1 rfl) ?_
          obtain ⟨h16, hF⟩ := q_gd_e hF
          refine ql_M_X7_now hM hP h16 dX7_keeps_75 ?_
          obtain ⟨h17, hF⟩ := q_gd_e hF
          refine qs_M_X7_was hM hP hD hS h17 dX7_keeps_76 (fun x18 H locs ex18 hP hD hS => ?_)
          have hF := q_let_e hF ex18
          obtain ⟨v19, ev19⟩ : ∃ y : Int32, y = v12 + 1 := ⟨_, rfl⟩
          have hF := q_let_e hF ev19
          refine lv_iinc (v := v19) (lv' := [(1, .int v19), (0, .ref (ad 0))]) hx hb dX7_keeps_77 hl (k := 1) rfl (by rw [ev19]; rfl) (by decide) rfl (fun ls hl => ?_)
          refine lv_goto (tgt := 51) hx hb dX7_keeps_80 (by decide) ?_
          exact ih _ _ _ _ _ (lv_sub hl [1, 0] rfl) hP hD hS hk hF
    refine L51 _ _ _ _ _ _ _ (lv_sub hl [1, 0] rfl) hP hD hS ?_ hF
    clear hF
    intro x14 H locs ls hl hP hD hS hF
    refine lv_aload_n hx hb dX7_keeps_83 rfl (lv_at hl 0 rfl) ?_
    refine lv_dup hx hb dX7_keeps_84 rfl ?_
    refine qg_M_X7_changes hM hP fl_X7_54 dX7_keeps_85 ?_
    refine lv_iconst (v := 1) hx hb dX7_keeps_88 (by decide) ?_
    refine lv_iadd hx hb dX7_keeps_89 ?_
    refine qp_M_X7_changes hM hP hD hS fl_X7_54 dX7_keeps_90 (fun x20 H locs ex20 hP hD hS => ?_)
    have hF := q_let_e hF ex20
    exact hRet _ _ _ _ _ hF dX7_keeps_93 hP hD hS
  refine lv_icmp_ne (tgt := 49) hx hb dX7_keeps_6 (by decide) (fun c1 => ?_) (fun c1 => ?_)
  · have hF := q_ie hF c1
    exact K49 _ _ _ _ (lv_sub hl [0] rfl) hP hD hS hF
  · have hF := q_it hF c1
    refine lv_iconst (v := 0) hx hb dX7_keeps_9 (by decide) ?_
    refine lv_istore_n (lv' := [(1, .int (0 : Int32)), (0, .ref (ad 0))]) hx hb dX7_keeps_10 rfl hl (by decide) rfl (fun ls hl => ?_)
    have L11 : ∀ (k : IS → Option (IS)) (n : Nat) (v2 : Int32) (x3 : IS) (H : Heap) (locs : List Loc) (ls : Array Slot), lv_has ls 2 [(0, .ref (ad 0)), (1, .int v2)] → va_P D vwCl (q_WM cI ad x3) H → va_D A (q_WM cI ad x3) → va_S A s.heap H locs → (∀ (x4 : IS) (H : Heap) (locs : List Loc) (ls : Array Slot), lv_has ls 2 [(0, .ref (ad 0))] → va_P D vwCl (q_WM cI ad x4) H → va_D A (q_WM cI ad x4) → va_S A s.heap H locs → k x4 = some res → W p l e { frames := 0, cells := 0, slots := 0, locals := 0 } s m args below meth c H locs 0 0 Q (F0 m 39 ls [])) → f_X7_keeps_L11 k n v2 x3 = some res → W p l e { frames := 0, cells := 0, slots := 0, locals := 0 } s m args below meth c H locs 0 0 Q (F0 m 11 ls []) := by
      intro k n
      induction n with
      | zero => intro v2 x3 H locs ls hl hP hD hS hk hF; exact q_no hF
      | succ n ih =>
        intro v2 x3 H locs ls hl hP hD hS hk hF
        have hF : f_X7_keeps_L11F k (f_X7_keeps_L11 k n) v2 x3 = some res := hF
        unfold f_X7_keeps_L11F at hF
        refine lv_iload_n hx hb dX7_keeps_11 rfl (lv_at hl 1 rfl) ?_
        refine lv_sipush (v := 510) hx hb dX7_keeps_12 (by decide) ?_
        refine lv_icmp_ge (tgt := 39) hx hb dX7_keeps_15 (by decide) (fun c5 => ?_) (fun c5 => ?_)
        · have hF := q_it hF c5
          exact hk _ _ _ _ (lv_sub hl [0] rfl) hP hD hS hF
        · have hF := q_ie hF c5
          refine lv_aload_n hx hb dX7_keeps_18 rfl (lv_at hl 0 rfl) ?_
          refine qg_M_X7_was hM hP fl_X7_19 dX7_keeps_19 ?_
          refine lv_iload_n hx hb dX7_keeps_22 rfl (lv_at hl 1 rfl) ?_
          refine lv_aload_n hx hb dX7_keeps_23 rfl (lv_at hl 0 rfl) ?_
          refine qg_M_X7_was hM hP fl_X7_19 dX7_keeps_24 ?_
          refine lv_iload_n hx hb dX7_keeps_27 rfl (lv_at hl 1 rfl) ?_
          refine lv_bipush (v := 102) hx hb dX7_keeps_28 (by decide) ?_
          refine lv_iadd hx hb dX7_keeps_30 ?_
          obtain ⟨h6, hF⟩ := q_gd_e hF
          refine ql_M_X7_was hM hP h6 dX7_keeps_31 ?_
          obtain ⟨h7, hF⟩ := q_gd_e hF
          refine qs_M_X7_was hM hP hD hS h7 dX7_keeps_32 (fun x8 H locs ex8 hP hD hS => ?_)
          have hF := q_let_e hF ex8
          obtain ⟨v9, ev9⟩ : ∃ y : Int32, y = v2 + 1 := ⟨_, rfl⟩
          have hF := q_let_e hF ev9
          refine lv_iinc (v := v9) (lv' := [(1, .int v9), (0, .ref (ad 0))]) hx hb dX7_keeps_33 hl (k := 1) rfl (by rw [ev9]; rfl) (by decide) rfl (fun ls hl => ?_)
          refine lv_goto (tgt := 11) hx hb dX7_keeps_36 (by decide) ?_
          exact ih _ _ _ _ _ (lv_sub hl [1, 0] rfl) hP hD hS hk hF
    refine L11 _ _ _ _ _ _ _ (lv_sub hl [1, 0] rfl) hP hD hS ?_ hF
    clear hF
    intro x4 H locs ls hl hP hD hS hF
    refine lv_aload_n hx hb dX7_keeps_39 rfl (lv_at hl 0 rfl) ?_
    refine lv_dup hx hb dX7_keeps_40 rfl ?_
    refine qg_M_X7_changes hM hP fl_X7_54 dX7_keeps_41 ?_
    refine lv_iconst (v := 1) hx hb dX7_keeps_44 (by decide) ?_
    refine lv_isub hx hb dX7_keeps_45 ?_
    refine qp_M_X7_changes hM hP hD hS fl_X7_54 dX7_keeps_46 (fun x10 H locs ex10 hP hD hS => ?_)
    have hF := q_let_e hF ex10
    exact K49 _ _ _ _ (lv_sub hl [0] rfl) hP hD hS hF
theorem ky_X7_becomes : q_Y yX7_becomes cX7_becomes 4 (some .int) 2 := ⟨cw_X7_becomes, im_X7_becomes, se_X7_becomes, in_X7, by decide +kernel⟩
set_option maxHeartbeats 4000000 in
set_option maxRecDepth 100000 in
theorem c_X7_becomes (l : Launch) (D : va_G) (cI cJ : ClassId) (g : Nat → Nat) (ad : Nat → Nat) (x : IS) (a1 : Int32) (a2 : Int32) (res : Int32 × IS) (hF : f_X7_becomes x a1 a2 = some res) : q_Mi l yX7_becomes cX7_becomes 4 .int { frames := 1, cells := 0, slots := 0, locals := 21 } D cI cJ g (q_WM cI ad x) [.ref (ad 0), .int a1, .int a2] (res.1) (q_WM cI ad (res.2)) := by
  refine q_ofi (res := res) (fun u : Int32 × IS => u.1) (fun u : Int32 × IS => (q_WM cI ad (u.2))) pl_X7 (Nat.le_of_ble_eq_true rfl) ?_
  intro p e s m args below meth c A Q hM hRet ls hl hP hD hS
  have hx := hM.1.1
  have hb := hM.1.2.1
  have hl : lv_has ls 4 [(0, .ref (ad 0)), (1, .int a1), (2, .int a2)] := hl
  unfold f_X7_becomes at hF
  refine lv_aload_n hx hb dX7_becomes_0 rfl (lv_at hl 0 rfl) ?_
  refine qg_M_X7_now hM hP fl_X7_16 dX7_becomes_1 ?_
  refine lv_iload_n hx hb dX7_becomes_4 rfl (lv_at hl 1 rfl) ?_
  obtain ⟨h1, hF⟩ := q_gd_e hF
  refine ql_M_X7_now hM hP h1 dX7_becomes_5 ?_
  refine lv_topi (fun v2 ev2 => ?_)
  have hF := q_let_e hF ev2
  refine lv_istore_n (lv' := [(3, .int v2), (0, .ref (ad 0)), (1, .int a1), (2, .int a2)]) hx hb dX7_becomes_6 rfl hl (by decide) rfl (fun ls hl => ?_)
  refine lv_iload_n hx hb dX7_becomes_7 rfl (lv_at hl 0 rfl) ?_
  refine lv_iload_n hx hb dX7_becomes_8 rfl (lv_at hl 3 rfl) ?_
  refine lv_icmp_ne (tgt := 15) hx hb dX7_becomes_9 (by decide) (fun c3 => ?_) (fun c3 => ?_)
  · have hF := q_ie hF c3
    refine lv_aload_n hx hb dX7_becomes_15 rfl (lv_at hl 1 rfl) ?_
    obtain ⟨x4, hC5, hF⟩ := q_b1_e hF
    refine q_callv hM (c_X7_keeps l D cI cJ g ad _ _ hC5) hP hD hS ky_X7_keeps ml_X7_104 rfl rfl ⟨Nat.le_of_ble_eq_true rfl, Nat.le_of_ble_eq_true rfl⟩ 0 rfl rfl rfl hl.1 rfl (Nat.le_of_ble_eq_true rfl) ⟨Nat.zero_le _, Nat.zero_le _⟩ dX7_becomes_16 (fun H locs hP hD hS => ?_)
    refine lv_aload_n hx hb dX7_becomes_19 rfl (lv_at hl 1 rfl) ?_
    refine qg_M_X7_now hM hP fl_X7_16 dX7_becomes_20 ?_
    refine lv_iload_n hx hb dX7_becomes_23 rfl (lv_at hl 2 rfl) ?_
    refine lv_iload_n hx hb dX7_becomes_24 rfl (lv_at hl 3 rfl) ?_
    obtain ⟨h6, hF⟩ := q_gd_e hF
    refine qs_M_X7_now hM hP hD hS h6 dX7_becomes_25 (fun x7 H locs ex7 hP hD hS => ?_)
    have hF := q_let_e hF ex7
    refine lv_iload_n hx hb dX7_becomes_26 rfl (lv_at hl 0 rfl) ?_
    exact hRet (v2, x7) _ _ _ _ hF rfl dX7_becomes_27 hP hD hS
  · have hF := q_it hF c3
    refine lv_bipush (v := -2) hx hb dX7_becomes_12 (by decide) ?_
    exact hRet ((-2 : Int32), x) _ _ _ _ hF rfl dX7_becomes_14 hP hD hS
theorem ky_X7_isCell : q_Y yX7_isCell cX7_isCell 2 (some .boolean) 1 := ⟨cw_X7_isCell, im_X7_isCell, se_X7_isCell, in_X7, by decide +kernel⟩
set_option maxHeartbeats 4000000 in
set_option maxRecDepth 100000 in
theorem c_X7_isCell (l : Launch) (D : va_G) (cI cJ : ClassId) (g : Nat → Nat) (ad : Nat → Nat) (x : IS) (a1 : Int32) (res : Int32) (hF : f_X7_isCell x a1 = some res) : q_Mi l yX7_isCell cX7_isCell 2 .boolean { frames := 1, cells := 0, slots := 0, locals := 22 } D cI cJ g (q_WM cI ad x) [.ref (ad 0), .int a1] (res) (q_WM cI ad x) := by
  refine q_ofi (res := res) (fun u : Int32 => u) (fun _ : Int32 => (q_WM cI ad x)) pl_X7 (Nat.le_of_ble_eq_true rfl) ?_
  intro p e s m args below meth c A Q hM hRet ls hl hP hD hS
  have hx := hM.1.1
  have hb := hM.1.2.1
  have hl : lv_has ls 2 [(0, .ref (ad 0)), (1, .int a1)] := hl
  unfold f_X7_isCell at hF
  refine lv_iload_n hx hb dX7_isCell_0 rfl (lv_at hl 1 rfl) ?_
  refine lv_iconst (v := 0) hx hb dX7_isCell_1 (by decide) ?_
  refine lv_aload_n hx hb dX7_isCell_2 rfl (lv_at hl 0 rfl) ?_
  refine qg_M_X7_cells hM hP fl_X7_48 dX7_isCell_3 ?_
  refine lv_iconst (v := 1) hx hb dX7_isCell_6 (by decide) ?_
  refine lv_isub hx hb dX7_isCell_7 ?_
  obtain ⟨r1, hC2, hF⟩ := q_b1_e hF
  refine q_calliS hM (c_X7_isIn l D cI cJ g (q_WM cI ad x) _ _ _ _ hC2) hP hD hS ky_X7_isIn ml_X7_76 rfl rfl ⟨Nat.le_of_ble_eq_true rfl, Nat.le_of_ble_eq_true rfl⟩ rfl hl.1 rfl (Nat.le_of_ble_eq_true rfl) ⟨Nat.zero_le _, Nat.zero_le _⟩ dX7_isCell_8 (fun H locs hz3 hP hD hS => ?_)
  exact hRet r1 _ _ _ _ hF hz3 dX7_isCell_11 hP hD hS
end
