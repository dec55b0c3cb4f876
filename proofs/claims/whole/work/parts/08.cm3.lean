section
theorem ky_X7_count : q_Y yX7_count cX7_count 2 (some .int) 1 := ⟨cw_X7_count, im_X7_count, se_X7_count, in_X7, by decide +kernel⟩
set_option maxHeartbeats 4000000 in
set_option maxRecDepth 100000 in
theorem c_X7_count (l : Launch) (D : va_G) (cI cJ : ClassId) (g : Nat → Nat) (ad : Nat → Nat) (x : IS) (a1 : Int32) (res : Int32 × IS) (hF : f_X7_count x a1 = some res) : q_Mi l yX7_count cX7_count 2 .int { frames := 6, cells := 0, slots := 0, locals := 138 } D cI cJ g (q_WM cI ad x) [.ref (ad 0), .int a1] (res.1) (q_WM cI ad (res.2)) := by
  refine q_ofi (res := res) (fun u : Int32 × IS => u.1) (fun u : Int32 × IS => (q_WM cI ad (u.2))) pl_X7 (Nat.le_of_ble_eq_true rfl) ?_
  intro p e s m args below meth c A Q hM hRet ls hl hP hD hS
  have hx := hM.1.1
  have hb := hM.1.2.1
  have hl : lv_has ls 2 [(0, .ref (ad 0)), (1, .int a1)] := hl
  unfold f_X7_count at hF
  refine lv_iload_n hx hb dX7_count_0 rfl (lv_at hl 1 rfl) ?_
  obtain ⟨J69, hJ69, hF⟩ := q_jn_e hF
  have K69 : ∀ (H : Heap) (locs : List Loc) (ls : Array Slot), lv_has ls 2 [(0, .ref (ad 0)), (1, .int a1)] → va_P D vwCl (q_WM cI ad x) H → va_D A (q_WM cI ad x) → va_S A s.heap H locs → J69 = some res → W p l e { frames := 6, cells := 0, slots := 0, locals := 138 } s m args below meth c H locs 0 0 Q (F0 m 69 ls []) := by
    clear hF; intro H locs ls hl hP hD hS hF
    rw [hJ69] at hF
    refine lv_aload_n hx hb dX7_count_69 rfl (lv_at hl 0 rfl) ?_
    refine qg_M_X7_now hM hP fl_X7_16 dX7_count_70 ?_
    refine lv_bipush (v := 95) hx hb dX7_count_73 (by decide) ?_
    refine lv_iload_n hx hb dX7_count_75 rfl (lv_at hl 1 rfl) ?_
    refine lv_iadd hx hb dX7_count_76 ?_
    obtain ⟨h24, hF⟩ := q_gd_e hF
    refine ql_M_X7_now hM hP h24 dX7_count_77 ?_
    exact hRet ((x 5 ((95 : Int32) + a1).toNatClampNeg), x) _ _ _ _ hF rfl dX7_count_78 hP hD hS
  by_cases c1 : a1 = 0
  · have hF := q_it hF c1
    refine lv_tableIn (off := 63) (tgt := 64) hx hb dX7_count_1 (by rw [c1]; decide) (by rw [c1]; decide) (by rw [c1]; rfl) (by decide) ?_
    refine lv_aload_n hx hb dX7_count_64 rfl (lv_at hl 0 rfl) ?_
    refine qg_M_X7_cells hM hP fl_X7_48 dX7_count_65 ?_
    exact hRet ((x 2 0), x) _ _ _ _ hF rfl dX7_count_68 hP hD hS
  · have hF := q_ie hF c1
    by_cases c2 : a1 = 1
    · have hF := q_it hF c2
      refine lv_tableIn (off := 68) (tgt := 69) hx hb dX7_count_1 (by rw [c2]; decide) (by rw [c2]; decide) (by rw [c2]; rfl) (by decide) ?_
      exact K69 _ _ _ (lv_sub hl [0, 1] rfl) hP hD hS hF
    · have hF := q_ie hF c2
      by_cases c3 : a1 = 2
      · have hF := q_it hF c3
        refine lv_tableIn (off := 68) (tgt := 69) hx hb dX7_count_1 (by rw [c3]; decide) (by rw [c3]; decide) (by rw [c3]; rfl) (by decide) ?_
        exact K69 _ _ _ (lv_sub hl [0, 1] rfl) hP hD hS hF
      · have hF := q_ie hF c3
        by_cases c4 : a1 = 3
        · have hF := q_it hF c4
          refine lv_tableIn (off := 68) (tgt := 69) hx hb dX7_count_1 (by rw [c4]; decide) (by rw [c4]; decide) (by rw [c4]; rfl) (by decide) ?_
          exact K69 _ _ _ (lv_sub hl [0, 1] rfl) hP hD hS hF
        · have hF := q_ie hF c4
          by_cases c5 : a1 = 4
          · have hF := q_it hF c5
            refine lv_tableIn (off := 68) (tgt := 69) hx hb dX7_count_1 (by rw [c5]; decide) (by rw [c5]; decide) (by rw [c5]; rfl) (by decide) ?_
            exact K69 _ _ _ (lv_sub hl [0, 1] rfl) hP hD hS hF
          · have hF := q_ie hF c5
            by_cases c6 : a1 = 5
            · have hF := q_it hF c6
              refine lv_tableIn (off := 68) (tgt := 69) hx hb dX7_count_1 (by rw [c6]; decide) (by rw [c6]; decide) (by rw [c6]; rfl) (by decide) ?_
              exact K69 _ _ _ (lv_sub hl [0, 1] rfl) hP hD hS hF
            · have hF := q_ie hF c6
              by_cases c7 : a1 = 6
              · have hF := q_it hF c7
                refine lv_tableIn (off := 68) (tgt := 69) hx hb dX7_count_1 (by rw [c7]; decide) (by rw [c7]; decide) (by rw [c7]; rfl) (by decide) ?_
                exact K69 _ _ _ (lv_sub hl [0, 1] rfl) hP hD hS hF
              · have hF := q_ie hF c7
                by_cases c8 : a1 = 7
                · have hF := q_it hF c8
                  refine lv_tableIn (off := 78) (tgt := 79) hx hb dX7_count_1 (by rw [c8]; decide) (by rw [c8]; decide) (by rw [c8]; rfl) (by decide) ?_
                  refine lv_aload_n hx hb dX7_count_79 rfl (lv_at hl 0 rfl) ?_
                  obtain ⟨r20, x21, hC22, hF⟩ := q_b2_e hF
                  refine q_calli hM (c_X7_alarms l D cI cJ g ad _ _ hC22) hP hD hS ky_X7_alarms ml_X7_155 rfl rfl ⟨Nat.le_of_ble_eq_true rfl, Nat.le_of_ble_eq_true rfl⟩ 0 rfl rfl rfl hl.1 rfl (Nat.le_of_ble_eq_true rfl) ⟨Nat.zero_le _, Nat.zero_le _⟩ dX7_count_80 (fun H locs hz23 hP hD hS => ?_)
                  exact hRet (r20, x21) _ _ _ _ hF rfl dX7_count_83 hP hD hS
                · have hF := q_ie hF c8
                  by_cases c9 : a1 = 8
                  · have hF := q_it hF c9
                    refine lv_tableIn (off := 83) (tgt := 84) hx hb dX7_count_1 (by rw [c9]; decide) (by rw [c9]; decide) (by rw [c9]; rfl) (by decide) ?_
                    refine lv_aload_n hx hb dX7_count_84 rfl (lv_at hl 0 rfl) ?_
                    obtain ⟨r16, x17, hC18, hF⟩ := q_b2_e hF
                    refine q_calli hM (c_X7_bunches l D cI cJ g ad _ _ hC18) hP hD hS ky_X7_bunches ml_X7_146 rfl rfl ⟨Nat.le_of_ble_eq_true rfl, Nat.le_of_ble_eq_true rfl⟩ 0 rfl rfl rfl hl.1 rfl (Nat.le_of_ble_eq_true rfl) ⟨Nat.zero_le _, Nat.zero_le _⟩ dX7_count_85 (fun H locs hz19 hP hD hS => ?_)
                    exact hRet (r16, x17) _ _ _ _ hF rfl dX7_count_88 hP hD hS
                  · have hF := q_ie hF c9
                    by_cases c10 : a1 = 9
                    · have hF := q_it hF c10
                      refine lv_tableIn (off := 88) (tgt := 89) hx hb dX7_count_1 (by rw [c10]; decide) (by rw [c10]; decide) (by rw [c10]; rfl) (by decide) ?_
                      refine lv_aload_n hx hb dX7_count_89 rfl (lv_at hl 0 rfl) ?_
                      obtain ⟨r13, hC14, hF⟩ := q_b1_e hF
                      refine q_calli hM (c_X7_leftOut l D cI cJ g ad _ _ hC14) hP hD hS ky_X7_leftOut ml_X7_114 rfl rfl ⟨Nat.le_of_ble_eq_true rfl, Nat.le_of_ble_eq_true rfl⟩ 0 rfl rfl rfl hl.1 rfl (Nat.le_of_ble_eq_true rfl) ⟨Nat.zero_le _, Nat.zero_le _⟩ dX7_count_90 (fun H locs hz15 hP hD hS => ?_)
                      exact hRet (r13, x) _ _ _ _ hF rfl dX7_count_93 hP hD hS
                    · have hF := q_ie hF c10
                      by_cases c11 : a1 = 10
                      · have hF := q_it hF c11
                        refine lv_tableIn (off := 93) (tgt := 94) hx hb dX7_count_1 (by rw [c11]; decide) (by rw [c11]; decide) (by rw [c11]; rfl) (by decide) ?_
                        refine lv_aload_n hx hb dX7_count_94 rfl (lv_at hl 0 rfl) ?_
                        refine qg_M_X7_changes hM hP fl_X7_54 dX7_count_95 ?_
                        exact hRet ((x 7 0), x) _ _ _ _ hF rfl dX7_count_98 hP hD hS
                      · have hF := q_ie hF c11
                        by_cases c12 : a1 = 11
                        · have hF := q_it hF c12
                          refine lv_tableIn (off := 98) (tgt := 99) hx hb dX7_count_1 (by rw [c12]; decide) (by rw [c12]; decide) (by rw [c12]; rfl) (by decide) ?_
                          refine lv_aload_n hx hb dX7_count_99 rfl (lv_at hl 0 rfl) ?_
                          refine qg_M_X7_length hM hP fl_X7_57 dX7_count_100 ?_
                          exact hRet ((x 0 0), x) _ _ _ _ hF rfl dX7_count_103 hP hD hS
                        · have hF := q_ie hF c12
                          refine lv_tableOut (tgt := 104) hx hb dX7_count_1 (by have z0 := q_ne c1; have z1 := q_ne c2; have z2 := q_ne c3; have z3 := q_ne c4; have z4 := q_ne c5; have z5 := q_ne c6; have z6 := q_ne c7; have z7 := q_ne c8; have z8 := q_ne c9; have z9 := q_ne c10; have z10 := q_ne c11; have z11 := q_ne c12; have y0 : (a1).toInt < 0 ∨ 11 < (a1).toInt := (by rw [show (0 : Int32).toInt = 0 from rfl] at z0; rw [show (1 : Int32).toInt = 1 from rfl] at z1; rw [show (2 : Int32).toInt = 2 from rfl] at z2; rw [show (3 : Int32).toInt = 3 from rfl] at z3; rw [show (4 : Int32).toInt = 4 from rfl] at z4; rw [show (5 : Int32).toInt = 5 from rfl] at z5; rw [show (6 : Int32).toInt = 6 from rfl] at z6; rw [show (7 : Int32).toInt = 7 from rfl] at z7; rw [show (8 : Int32).toInt = 8 from rfl] at z8; rw [show (9 : Int32).toInt = 9 from rfl] at z9; rw [show (10 : Int32).toInt = 10 from rfl] at z10; rw [show (11 : Int32).toInt = 11 from rfl] at z11; omega); exact y0) (by decide) ?_
                          refine lv_iconst (v := -1) hx hb dX7_count_104 (by decide) ?_
                          exact hRet ((-1 : Int32), x) _ _ _ _ hF rfl dX7_count_105 hP hD hS
end
