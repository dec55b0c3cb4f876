section
/-! String.length and charAt of the class's String constants -/
def q_slen (wi : Nat) : Option Int32 := if wi < 7 then some (Int32.ofNat (q_len.getD wi 0)) else none
def q_sch (wi : Nat) (i : Int32) : Option Int32 := if wi < 7 ∧ q_in i (q_len.getD wi 0) then some ((q_byt.getD wi []).getD i.toNatClampNeg 0) else none
theorem q_wl {wi : Nat} {r : Int32} (h : q_slen wi = some r) : wi < 7 := by
  unfold q_slen at h
  split at h
  · assumption
  · cases h
theorem q_wc {wi : Nat} {i r : Int32} (h : q_sch wi i = some r) : wi < 7 := by
  unfold q_sch at h
  split at h
  · exact (‹_ ∧ _›).1
  · cases h
theorem q_byt_c : ∀ wi, wi < 7 → ∀ k, k < 5 → ((((q_byt.getD wi []).getD k 0) &&& 255).toUInt32.toUInt16.toUInt32.toInt32 = (q_byt.getD wi []).getD k 0) := by decide +kernel
theorem q_len_5 : ∀ wi, wi < 7 → q_len.getD wi 0 ≤ 5 := by decide +kernel
theorem ky_J0_coder_7d493 : q_Y yJ0_coder_7d493 cJ0_coder_7d493 1 (some .byte) 0 := ⟨cw_J0_coder_7d493, im_J0_coder_7d493, se_J0_coder_7d493, in_J0, by decide +kernel⟩
theorem ky_J0_isLatin1_aae02 : q_Y yJ0_isLatin1_aae02 cJ0_isLatin1_aae02 1 (some .boolean) 0 := ⟨cw_J0_isLatin1_aae02, im_J0_isLatin1_aae02, se_J0_isLatin1_aae02, in_J0, by decide +kernel⟩
theorem ky_J0_length_8abf5 : q_Y yJ0_length_8abf5 cJ0_length_8abf5 1 (some .int) 0 := ⟨cw_J0_length_8abf5, im_J0_length_8abf5, se_J0_length_8abf5, in_J0, by decide +kernel⟩
theorem ky_J0_charAt_5068e : q_Y yJ0_charAt_5068e cJ0_charAt_5068e 2 (some .char) 1 := ⟨cw_J0_charAt_5068e, im_J0_charAt_5068e, se_J0_charAt_5068e, in_J0, by decide +kernel⟩
theorem ky_J1_charAt_3b067 : q_YS yJ1_charAt_3b067 cJ1_charAt_3b067 2 (some .char) 2 := ⟨cw_J1_charAt_3b067, st_J1_charAt_3b067, in_J1, by decide +kernel⟩
theorem ky_J0_checkIndex_df160 : q_YS yJ0_checkIndex_df160 cJ0_checkIndex_df160 2 none 2 := ⟨cw_J0_checkIndex_df160, st_J0_checkIndex_df160, in_J0, by decide +kernel⟩
theorem ky_J3_checkIndex_8e157 : q_YS yJ3_checkIndex_8e157 cJ3_checkIndex_8e157 3 (some .int) 3 := ⟨cw_J3_checkIndex_8e157, st_J3_checkIndex_8e157, in_J3, by decide +kernel⟩
set_option maxHeartbeats 4000000 in
set_option maxRecDepth 100000 in
theorem c_J0_coder (l : Launch) (D : va_G) (cI cJ : ClassId) (g : Nat → Nat) (w : va_W) (wi : Nat) (hwi : wi < 7) : q_Mi l yJ0_coder_7d493 cJ0_coder_7d493 1 .byte { frames := 0, cells := 0, slots := 0, locals := 0 } D cI cJ g w [.ref (g (10 + wi))] 0 w := by
  refine q_ofi (res := (0 : Int32)) (fun u : Int32 => u) (fun _ : Int32 => w) pl_J0 (Nat.le_of_ble_eq_true rfl) ?_
  intro p e s m args below meth c A Q hM hRet ls hl hP hD hS
  have hx := hM.1.1
  have hb := hM.1.2.1
  have hl : lv_has ls 1 [(0, .ref (g (10 + wi)))] := hl
  have hz := hM.2.2.2.2.2
  refine va_gets hx hb hz.2.2.2.2.2.1 hS hM.1.2.2.2.1 (hM.1.2.2.2.2 _ fl_J0_38) (fun _ h => h) dJ0_coder_7d493_0 ?_
  refine lv_if_eq (tgt := 13) hx hb dJ0_coder_7d493_3 (by decide) (fun h => absurd h (by decide)) (fun _ => ?_)
  refine lv_aload_n hx hb dJ0_coder_7d493_6 rfl (lv_at hl 0 rfl) ?_
  refine vk_getf hx hb (hz.2.2.2.2.2.2.2.1 wi hwi).2.1 hS hM.1.2.2.2.1 (hM.1.2.2.2.2 _ fl_J0_15) (fun _ h => h) dJ0_coder_7d493_7 ?_
  refine lv_goto (tgt := 14) hx hb dJ0_coder_7d493_10 (by decide) ?_
  exact hRet (0 : Int32) _ _ _ _ rfl rfl dJ0_coder_7d493_14 hP hD hS
set_option maxHeartbeats 4000000 in
set_option maxRecDepth 100000 in
theorem c_J0_isLatin1 (l : Launch) (D : va_G) (cI cJ : ClassId) (g : Nat → Nat) (w : va_W) (wi : Nat) (hwi : wi < 7) : q_Mi l yJ0_isLatin1_aae02 cJ0_isLatin1_aae02 1 .boolean { frames := 0, cells := 0, slots := 0, locals := 0 } D cI cJ g w [.ref (g (10 + wi))] 1 w := by
  refine q_ofi (res := (1 : Int32)) (fun u : Int32 => u) (fun _ : Int32 => w) pl_J0 (Nat.le_of_ble_eq_true rfl) ?_
  intro p e s m args below meth c A Q hM hRet ls hl hP hD hS
  have hx := hM.1.1
  have hb := hM.1.2.1
  have hl : lv_has ls 1 [(0, .ref (g (10 + wi)))] := hl
  have hz := hM.2.2.2.2.2
  refine va_gets hx hb hz.2.2.2.2.2.1 hS hM.1.2.2.2.1 (hM.1.2.2.2.2 _ fl_J0_38) (fun _ h => h) dJ0_isLatin1_aae02_0 ?_
  refine lv_if_eq (tgt := 17) hx hb dJ0_isLatin1_aae02_3 (by decide) (fun h => absurd h (by decide)) (fun _ => ?_)
  refine lv_aload_n hx hb dJ0_isLatin1_aae02_6 rfl (lv_at hl 0 rfl) ?_
  refine vk_getf hx hb (hz.2.2.2.2.2.2.2.1 wi hwi).2.1 hS hM.1.2.2.2.1 (hM.1.2.2.2.2 _ fl_J0_15) (fun _ h => h) dJ0_isLatin1_aae02_7 ?_
  refine lv_if_ne (tgt := 17) hx hb dJ0_isLatin1_aae02_10 (by decide) (fun h => absurd rfl h) (fun _ => ?_)
  refine lv_iconst (v := 1) hx hb dJ0_isLatin1_aae02_13 (by decide) ?_
  refine lv_goto (tgt := 18) hx hb dJ0_isLatin1_aae02_14 (by decide) ?_
  exact hRet (1 : Int32) _ _ _ _ rfl narrow_b1 dJ0_isLatin1_aae02_18 hP hD hS
theorem q_shr0 (x : Int32) : x >>> ((0 : Int32) &&& 31) = x := by
  apply Int32.toBitVec_inj.mp
  simp
set_option maxHeartbeats 4000000 in
set_option maxRecDepth 100000 in
theorem c_J0_length (l : Launch) (D : va_G) (cI cJ : ClassId) (g : Nat → Nat) (w : va_W) (wi : Nat) (res : Int32) (hF : q_slen wi = some res) : q_Mi l yJ0_length_8abf5 cJ0_length_8abf5 1 .int { frames := 1, cells := 0, slots := 0, locals := 20 } D cI cJ g w [.ref (g (10 + wi))] res w := by
  have hwi := q_wl hF
  have hF : Int32.ofNat (q_len.getD wi 0) = res := by unfold q_slen at hF; rw [if_pos hwi] at hF; exact Option.some.inj hF
  refine q_ofi (res := res) (fun u : Int32 => u) (fun _ : Int32 => w) pl_J0 (Nat.le_of_ble_eq_true rfl) ?_
  intro p e s m args below meth c A Q hM hRet ls hl hP hD hS
  have hx := hM.1.1
  have hb := hM.1.2.1
  have hl : lv_has ls 1 [(0, .ref (g (10 + wi)))] := hl
  have hz := hM.2.2.2.2.2
  refine lv_aload_n hx hb dJ0_length_8abf5_0 rfl (lv_at hl 0 rfl) ?_
  refine vk_getf hx hb (hz.2.2.2.2.2.2.2.1 wi hwi).2.2.1 hS hM.1.2.2.2.1 (hM.1.2.2.2.2 _ fl_J0_9) (fun _ h => h) dJ0_length_8abf5_1 ?_
  refine va_tlen hx hb (hz.2.2.2.2.2.2.2.1 wi hwi).2.2.2 hS hF dJ0_length_8abf5_4 ?_
  refine lv_aload_n hx hb dJ0_length_8abf5_5 rfl (lv_at hl 0 rfl) ?_
  refine q_calliT hM (c_J0_coder l D cI cJ g w wi hwi) hP hD hS ky_J0_coder_7d493 rfl hwi ml_J0_335 rfl rfl ⟨Nat.le_of_ble_eq_true rfl, Nat.le_of_ble_eq_true rfl⟩ rfl hl.1 rfl (Nat.le_of_ble_eq_true rfl) ⟨Nat.zero_le _, Nat.zero_le _⟩ dJ0_length_8abf5_6 (fun H locs _ hP hD hS => ?_)
  refine lv_ishr hx hb dJ0_length_8abf5_9 ?_
  rw [q_shr0]
  exact hRet res _ _ _ _ rfl rfl dJ0_length_8abf5_10 hP hD hS
set_option maxHeartbeats 4000000 in
set_option maxRecDepth 100000 in
theorem c_J3_checkIndex (l : Launch) (D : va_G) (cI cJ : ClassId) (g : Nat → Nat) (w : va_W) (i n : Int32) (fv : Value) (hfv : fv = .null ∨ ∃ t, fv = .ref t) (h0 : ¬ i < 0) (h1 : i < n) : q_Mi l yJ3_checkIndex_8e157 cJ3_checkIndex_8e157 3 .int { frames := 0, cells := 0, slots := 0, locals := 0 } D cI cJ g w [.int i, .int n, fv] i w := by
  have hlen : (lg_sl [.int i, .int n, fv]).length ≤ 3 := by rcases hfv with rfl | ⟨t, rfl⟩ <;> exact Nat.le_of_ble_eq_true rfl
  refine q_ofi (res := i) (fun u : Int32 => u) (fun _ : Int32 => w) pl_J3 hlen ?_
  intro p e s m args below meth c A Q hM hRet ls hl hP hD hS
  have hx := hM.1.1
  have hb := hM.1.2.1
  have hl : lv_has ls 3 [(0, .int i), (1, .int n)] := by rcases hfv with rfl | ⟨t, rfl⟩ <;> exact lv_sub hl [0, 1] rfl
  refine lv_iload_n hx hb dJ3_checkIndex_8e157_0 rfl (lv_at hl 0 rfl) ?_
  refine lv_if_lt (tgt := 9) hx hb dJ3_checkIndex_8e157_1 (by decide) (fun h => absurd h h0) (fun _ => ?_)
  refine lv_iload_n hx hb dJ3_checkIndex_8e157_4 rfl (lv_at hl 0 rfl) ?_
  refine lv_iload_n hx hb dJ3_checkIndex_8e157_5 rfl (lv_at hl 1 rfl) ?_
  refine lv_icmp_lt (tgt := 16) hx hb dJ3_checkIndex_8e157_6 (by decide) (fun _ => ?_) (fun h => absurd h1 h)
  refine lv_iload_n hx hb dJ3_checkIndex_8e157_16 rfl (lv_at hl 0 rfl) ?_
  exact hRet i _ _ _ _ rfl rfl dJ3_checkIndex_8e157_17 hP hD hS
set_option maxHeartbeats 4000000 in
set_option maxRecDepth 100000 in
theorem c_J0_checkIndex (l : Launch) (D : va_G) (cI cJ : ClassId) (g : Nat → Nat) (w : va_W) (i n : Int32) (h0 : ¬ i < 0) (h1 : i < n) : q_Mv l yJ0_checkIndex_df160 cJ0_checkIndex_df160 2 { frames := 1, cells := 0, slots := 0, locals := 22 } D cI cJ g w [.int i, .int n] w := by
  refine q_ofv (res := ()) (fun _ : Unit => w) pl_J0 (Nat.le_of_ble_eq_true rfl) ?_
  intro p e s m args below meth c A Q hM hRet ls hl hP hD hS
  have hx := hM.1.1
  have hb := hM.1.2.1
  have hl : lv_has ls 2 [(0, .int i), (1, .int n)] := hl
  have hz := hM.2.2.2.2.2.2.2.2.2.2.2.1
  refine lv_iload_n hx hb dJ0_checkIndex_df160_0 rfl (lv_at hl 0 rfl) ?_
  refine lv_iload_n hx hb dJ0_checkIndex_df160_1 rfl (lv_at hl 1 rfl) ?_
  have key : ∀ fv : Value, (fv = .null ∨ ∃ t, fv = .ref t) → va_Z "jdk/internal/util/Preconditions" "SIOOBE_FORMATTER" "Ljava/util/function/BiFunction;" fv A s s.heap → W p l e { frames := 1, cells := 0, slots := 0, locals := 22 } s m args below meth c s.heap [] 0 0 Q (F0 m 2 ls [.int n, .int i]) := by
    intro fv hfv hZ
    refine va_gets hx hb hZ hS hM.1.2.2.2.1 (hM.1.2.2.2.2 _ fl_J0_1053) (fun _ h => h) dJ0_checkIndex_df160_2 ?_
    refine q_calliS hM (c_J3_checkIndex l D cI cJ g w i n fv hfv h0 h1) hP hD hS ky_J3_checkIndex_8e157 ml_J0_1059 rfl rfl ⟨Nat.le_of_ble_eq_true rfl, Nat.le_of_ble_eq_true rfl⟩ rfl hl.1 rfl (Nat.le_of_ble_eq_true rfl) ⟨Nat.zero_le _, Nat.zero_le _⟩ dJ0_checkIndex_df160_5 (fun H locs _ hP hD hS => ?_)
    refine lv_pop hx hb dJ0_checkIndex_df160_8 rfl ?_
    exact hRet () _ _ _ _ rfl dJ0_checkIndex_df160_9 hP hD hS
  rcases hz with hz | ⟨t, hz⟩
  · exact key _ (Or.inl rfl) hz
  · exact key _ (Or.inr ⟨t, rfl⟩) hz
set_option maxHeartbeats 4000000 in
set_option maxRecDepth 100000 in
theorem c_J1_charAt (l : Launch) (D : va_G) (cI cJ : ClassId) (g : Nat → Nat) (w : va_W) (wi : Nat) (i : Int32) (hwi : wi < 7) (hi : q_in i (q_len.getD wi 0)) : q_Mi l yJ1_charAt_3b067 cJ1_charAt_3b067 2 .char { frames := 2, cells := 0, slots := 0, locals := 43 } D cI cJ g w [.ref (g (20 + wi)), .int i] ((q_byt.getD wi []).getD i.toNatClampNeg 0) w := by
  have hk : i.toNatClampNeg < 5 := Nat.lt_of_lt_of_le hi.2 (q_len_5 wi hwi)
  have hlt : i < Int32.ofNat (q_len.getD wi 0) := by
    have h5 := q_len_5 wi hwi
    have h2 := hi.2
    have h3 := q_nn i hi.1
    apply Int32.lt_iff_toInt_lt.mpr
    rw [h3, Int32.toInt_ofNat_of_lt (by omega)]
    omega
  have hc := q_byt_c wi hwi _ hk
  refine q_ofi (res := (q_byt.getD wi []).getD i.toNatClampNeg 0) (fun u : Int32 => u) (fun _ : Int32 => w) pl_J1 (Nat.le_of_ble_eq_true rfl) ?_
  intro p e s m args below meth c A Q hM hRet ls hl hP hD hS
  have hx := hM.1.1
  have hb := hM.1.2.1
  have hl : lv_has ls 2 [(0, .ref (g (20 + wi))), (1, .int i)] := hl
  have hz := hM.2.2.2.2.2
  have hT := (hz.2.2.2.2.2.2.2.1 wi hwi).2.2.2
  refine lv_iload_n hx hb dJ1_charAt_3b067_0 rfl (lv_at hl 1 rfl) ?_
  refine lv_aload_n hx hb dJ1_charAt_3b067_1 rfl (lv_at hl 0 rfl) ?_
  refine va_tlen hx hb hT hS rfl dJ1_charAt_3b067_2 ?_
  refine q_callvS hM (c_J0_checkIndex l D cI cJ g w i _ hi.1 hlt) hP hD hS ky_J0_checkIndex_df160 ml_J1_9 rfl rfl ⟨Nat.le_of_ble_eq_true rfl, Nat.le_of_ble_eq_true rfl⟩ rfl hl.1 rfl (Nat.le_of_ble_eq_true rfl) ⟨Nat.zero_le _, Nat.zero_le _⟩ dJ1_charAt_3b067_3 (fun H locs hP hD hS => ?_)
  refine lv_aload_n hx hb dJ1_charAt_3b067_6 rfl (lv_at hl 0 rfl) ?_
  refine lv_iload_n hx hb dJ1_charAt_3b067_7 rfl (lv_at hl 1 rfl) ?_
  refine va_tb hx hb hT hS (q_vp hi) rfl dJ1_charAt_3b067_8 ?_
  refine lv_sipush (v := 255) hx hb dJ1_charAt_3b067_9 (by decide) ?_
  refine lv_iand hx hb dJ1_charAt_3b067_12 ?_
  refine lv_i2c hx hb dJ1_charAt_3b067_13 hc ?_
  refine hRet _ _ _ _ _ rfl ?_ dJ1_charAt_3b067_14 hP hD hS
  have h2 : ∀ wi, wi < 7 → ∀ k, k < 5 → ((q_byt.getD wi []).getD k 0).toUInt32.toUInt16.toUInt32.toInt32 = (q_byt.getD wi []).getD k 0 := by decide +kernel
  exact congrArg Value.int (h2 wi hwi _ hk)
set_option maxHeartbeats 4000000 in
set_option maxRecDepth 100000 in
theorem c_J0_charAt (l : Launch) (D : va_G) (cI cJ : ClassId) (g : Nat → Nat) (w : va_W) (wi : Nat) (i res : Int32) (hF : q_sch wi i = some res) : q_Mi l yJ0_charAt_5068e cJ0_charAt_5068e 2 .char { frames := 3, cells := 0, slots := 0, locals := 64 } D cI cJ g w [.ref (g (10 + wi)), .int i] res w := by
  have hwi := q_wc hF
  obtain ⟨hi, hF⟩ : q_in i (q_len.getD wi 0) ∧ (q_byt.getD wi []).getD i.toNatClampNeg 0 = res := by
    unfold q_sch at hF
    split at hF
    · exact ⟨(‹_ ∧ _›).2, Option.some.inj hF⟩
    · cases hF
  subst hF
  refine q_ofi (res := (q_byt.getD wi []).getD i.toNatClampNeg 0) (fun u : Int32 => u) (fun _ : Int32 => w) pl_J0 (Nat.le_of_ble_eq_true rfl) ?_
  intro p e s m args below meth c A Q hM hRet ls hl hP hD hS
  have hx := hM.1.1
  have hb := hM.1.2.1
  have hl : lv_has ls 2 [(0, .ref (g (10 + wi))), (1, .int i)] := hl
  have hz := hM.2.2.2.2.2
  refine lv_aload_n hx hb dJ0_charAt_5068e_0 rfl (lv_at hl 0 rfl) ?_
  refine q_calliT hM (c_J0_isLatin1 l D cI cJ g w wi hwi) hP hD hS ky_J0_isLatin1_aae02 rfl hwi ml_J0_492 rfl rfl ⟨Nat.le_of_ble_eq_true rfl, Nat.le_of_ble_eq_true rfl⟩ rfl hl.1 rfl (Nat.le_of_ble_eq_true rfl) ⟨Nat.zero_le _, Nat.zero_le _⟩ dJ0_charAt_5068e_1 (fun H locs _ hP hD hS => ?_)
  refine lv_if_eq (tgt := 16) hx hb dJ0_charAt_5068e_4 (by decide) (fun h => absurd h (by decide)) (fun _ => ?_)
  refine lv_aload_n hx hb dJ0_charAt_5068e_7 rfl (lv_at hl 0 rfl) ?_
  refine vk_getf hx hb (hz.2.2.2.2.2.2.2.1 wi hwi).2.2.1 hS hM.1.2.2.2.1 (hM.1.2.2.2.2 _ fl_J0_9) (fun _ h => h) dJ0_charAt_5068e_8 ?_
  refine lv_iload_n hx hb dJ0_charAt_5068e_11 rfl (lv_at hl 1 rfl) ?_
  refine q_calliS hM (c_J1_charAt l D cI cJ g w wi i hwi hi) hP hD hS ky_J1_charAt_3b067 ml_J0_495 rfl rfl ⟨Nat.le_of_ble_eq_true rfl, Nat.le_of_ble_eq_true rfl⟩ rfl hl.1 rfl (Nat.le_of_ble_eq_true rfl) ⟨Nat.zero_le _, Nat.zero_le _⟩ dJ0_charAt_5068e_12 (fun H locs hz hP hD hS => ?_)
  exact hRet _ _ _ _ _ rfl hz dJ0_charAt_5068e_15 hP hD hS
end
