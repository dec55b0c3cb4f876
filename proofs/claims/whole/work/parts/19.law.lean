/-! THE CLAIM OUT OF ONE WALK OF THE LAW'S BODY. Your part is whole_start (and what it stands on); all else here is the same for every law, but numbers. -/
def R_law : String := "RankedEchoesLaw"
def lw_P (b : Addr) (xs : List Int32) (args : Array Value) (s : State) : Prop := args = #[.ref b] ∧ s.IntsAt b xs ∧ xs.length ≤ 2048 ∧ (Jvm.Cond.and given_1 narrow_1).before args s = true
def lw_Q (_ : Array Value) (s : State) (o : Outcome) (t : State) : Prop := o = .returned (some (.int 1)) ∧ Framed s o t [] 600000 7302250
def lw_Z (below : List Frame) (a : Array Value) (s : State) : State → Prop := fun t => ∃ o, t.status = .running ∧ Ended t below o ∧ lw_Q a s o t
/-- the law's own end, with 1 on the stack, nothing written that was there before, its room as the claim has it -/
theorem lw_ret {p : Program} {l : Launch} {e : Env} {s : State} {m : MethodId} {below : List Frame} {meth : Method} {c : Code} {b : Nat} (hx : p.tables.exec = Jvm.exec) (hb : c.code = code) (hr : meth.sig.returnType = ret) (hlocks : meth.locks = false) {pc : Nat} {H : Heap} {ls : Array Slot} (hdg : decode code pc = .ok (.ireturn, 1)) : W p l e room_1 s m #[Value.ref b] below meth c H [] 600000 7302250 (lw_Z below #[Value.ref b] s) (F0 m pc ls [.int 1]) := by
  intro T hT X
  obtain ⟨fs, hret, hrun, hended, hW, hframe⟩ := X.leave (v := some (.int 1)) (hlocks := hlocks) (fun h => by rw [hr] at h; cases h)
  have hmeth' : T.vm.method? m = some meth := X.method'
  refine ⟨T.setFrames fs, ?_, .returned (some (.int 1)), hrun, hended, rfl, ⟨_, rfl⟩, hW, hframe⟩
  jvm_step X.here [X.here.top, hx, hb, hdg, hmeth', hr, ret, narrow_b1]
  (try refine ⟨rfl, ?_⟩); (try refine ⟨rfl, ?_⟩)
  first | (intro acts; rw [hret _ acts rfl rfl rfl]) | rw [hret _ _ rfl rfl rfl]
  exact Steps.refl _
/-- what holds at the law's entry: the machine, the code, the tables' words (any of lw_tbl by 'hts w (by decide +kernel)'), the script of L ints xs at the cell b, what the Statement gives of the start (any of its parts by flat_of_before) -/
def lw_At (p : Program) (s : State) (m : MethodId) (meth : Method) (c : Code) (b L : Nat) (xs : Nat → Int32) : Prop :=
  p.tables.exec = Jvm.exec ∧ c.code = code ∧ meth.sig.returnType = ret ∧ c.maxLocals = 4 ∧ s.vm.findClass R_law = some m.cls ∧ (∀ w ∈ lw_tbl, w.before #[Value.ref b] s = true) ∧ va_X b L xs s s.heap ∧ b < s.heap.size ∧ meth.locks = false ∧ (Jvm.Cond.and given_1 narrow_1).before #[Value.ref b] s = true
section
theorem q_lc (r : Int64) : lg_cmp r r = 0 := by simp [lg_cmp]
theorem q_go1 {n L : Nat} (hL : L ≤ 2048) (hn : n ≤ 2052) (h : ¬ Int32.ofNat L - 4 < nI n) : n + 4 ≤ L := by
  rcases Nat.lt_or_ge L (n + 4) with hlt | hge
  · exfalso
    apply h
    have e1 : (Int32.ofNat L - 4 : Int32).toInt = (L : Int) - 4 := by
      rw [Int32.toInt_sub, Int32.toInt_ofNat_of_lt (by omega)]
      show ((L : Int) - 4).bmod (2 ^ 32) = _
      rw [Int.bmod_eq_of_le (by omega) (by omega)]
    apply Int32.lt_iff_toInt_lt.mpr
    rw [e1, nI_toInt (by omega)]
    omega
  · exact hge
set_option maxHeartbeats 8000000 in
set_option maxRecDepth 100000 in
theorem law_loop {I : IS → JS → IS → Prop} (hSim : q_Sim I) {p : Program} {l : Launch} {e : Env} {s : State} {m : MethodId} {below : List Frame} {meth : Method} {c : Code} {D : va_G} {cI cJ : ClassId} {g : Nat → Nat} {ad ad2 : Nat → Nat} {b L : Nat} {xs : Nat → Int32} (hL : L ≤ 2048) (hr : meth.sig.returnType = ret) (hlocks : meth.locks = false) (hX : va_X b L xs s s.heap) (hbl : b < s.heap.size) (hM : q_M p m c code 4 s #[Value.ref b] RL D cI cJ (fun q : Nat => s.heap.size ≤ q) g) :
    ∀ (t n0 : Nat), n0 ≤ 2052 → L + 4 ≤ n0 + 4 * t → ∀ (x : IS) (j : JS) (y : IS), I x j y → ∀ (H : Heap) (locs : List Loc), va_P D vwCl (q_WX cI cJ ad x j ++ q_WM cI ad2 y) H → va_D (fun q : Nat => s.heap.size ≤ q) (q_WX cI cJ ad x j ++ q_WM cI ad2 y) → va_S (fun q : Nat => s.heap.size ≤ q) s.heap H locs → ∀ (ls : Array Slot), lv_has ls 4 [(0, .ref b), (1, .ref (ad 0)), (2, .ref (ad2 0)), (3, .int (nI n0))] → W p l e room_1 s m #[Value.ref b] below meth c H locs 35 1805 (lw_Z below #[Value.ref b] s) (F0 m 18 ls []) := by
  have hx := hM.1.1
  have hb : c.code = cL_law := hM.1.2.1
  have hbA : ¬ (fun q : Nat => s.heap.size ≤ q) b := Nat.not_le.mpr hbl
  intro t
  induction t with
  | zero =>
    intro n0 h1 h2 x j y hI H locs hP hD hS ls hl
    refine lv_iload_n hx hb dL_law_18 rfl (lv_at hl 3 rfl) ?_
    refine lv_aload_n hx hb dL_law_19 rfl (lv_at hl 0 rfl) ?_
    refine va_slen hx hb hX hbl hbA hS dL_law_20 ?_
    refine lv_iconst (v := 4) hx hb dL_law_21 (by decide) ?_
    refine lv_isub hx hb dL_law_22 ?_
    refine lv_icmp_gt (tgt := 645) hx hb dL_law_23 (by decide) (fun _ => ?_) (fun h => absurd (q_go1 hL h1 h) (by omega))
    refine lv_iconst (v := 1) hx hb dL_law_645 (by decide) ?_
    refine va_forget (fun q hq => hS.2.2 q hq) ?_
    refine W.widen (k := 600000) (n := 7302250) (Nat.le_of_ble_eq_true rfl) (Nat.le_of_ble_eq_true rfl) ?_
    exact lw_ret hx hb hr hlocks dL_law_646
  | succ t ih =>
    intro n0 h1 h2 x j y hI H locs hP hD hS ls hl
    refine lv_iload_n hx hb dL_law_18 rfl (lv_at hl 3 rfl) ?_
    refine lv_aload_n hx hb dL_law_19 rfl (lv_at hl 0 rfl) ?_
    refine va_slen hx hb hX hbl hbA hS dL_law_20 ?_
    refine lv_iconst (v := 4) hx hb dL_law_21 (by decide) ?_
    refine lv_isub hx hb dL_law_22 ?_
    refine lv_icmp_gt (tgt := 645) hx hb dL_law_23 (by decide) (fun _ => ?_) (fun h => ?_)
    · refine lv_iconst (v := 1) hx hb dL_law_645 (by decide) ?_
      refine va_forget (fun q hq => hS.2.2 q hq) ?_
      refine W.widen (k := 600000) (n := 7302250) (Nat.le_of_ble_eq_true rfl) (Nat.le_of_ble_eq_true rfl) ?_
      exact lw_ret hx hb hr hlocks dL_law_646
    have hlt := q_go1 hL h1 h
    have hi0 : vp_in (nI n0) L := vp_in_nI (by omega) (by omega)
    have hi1 : vp_in (nI (n0 + 1)) L := vp_in_nI (by omega) (by omega)
    have hi2 : vp_in (nI (n0 + 2)) L := vp_in_nI (by omega) (by omega)
    have hi3 : vp_in (nI (n0 + 3)) L := vp_in_nI (by omega) (by omega)
    have ei1 : nI n0 + 1 = nI (n0 + 1) := nI_add n0 1
    have ei2 : nI n0 + 2 = nI (n0 + 2) := nI_add n0 2
    have ei3 : nI n0 + 3 = nI (n0 + 3) := nI_add n0 3
    have hgo : ∀ (x : IS) (j : JS) (y : IS), I x j y → ∀ (H : Heap) (locs : List Loc), va_P D vwCl (q_WX cI cJ ad x j ++ q_WM cI ad2 y) H → va_D (fun q : Nat => s.heap.size ≤ q) (q_WX cI cJ ad x j ++ q_WM cI ad2 y) → va_S (fun q : Nat => s.heap.size ≤ q) s.heap H locs → W p l e room_1 s m #[Value.ref b] below meth c H locs 35 1805 (lw_Z below #[Value.ref b] s) (F0 m 639 ls []) := by
      intro x j y hI H locs hP hD hS
      refine lv_iinc (v := nI (n0 + 4)) (lv' := [(3, .int (nI (n0 + 4))), (0, .ref b), (1, .ref (ad 0)), (2, .ref (ad2 0))]) hx hb dL_law_639 hl (k := 3) rfl (nI_add n0 4) (by decide) rfl (fun ls hl => ?_)
      refine lv_goto (tgt := 18) hx hb dL_law_642 (by decide) ?_
      exact ih (n0 + 4) (by omega) (by omega) x j y hI H locs hP hD hS ls (lv_sub hl [1, 2, 3, 0] rfl)
    refine lv_aload_n hx hb dL_law_26 rfl (lv_at hl 0 rfl) ?_
    refine lv_iload_n hx hb dL_law_27 rfl (lv_at hl 3 rfl) ?_
    refine va_sld hx hb hX hbl hbA hS hi0 dL_law_28 ?_
    refine lv_bipush (v := 31) hx hb dL_law_29 (by decide) ?_
    refine lv_iand hx hb dL_law_31 ?_
    generalize xs (nI n0).toNatClampNeg &&& 31 = v
    by_cases hc0 : v = 0
    · obtain ⟨r, x2, y2, h1, h2, hI⟩ := hSim.2.1 x j y hI (xs (nI (n0 + 1)).toNatClampNeg)
      refine lv_tableIn (off := 96) (tgt := 128) hx hb dL_law_32 (by rw [hc0]; decide) (by rw [hc0]; decide) (by rw [hc0]; rfl) (by decide) ?_
      refine lv_aload_n hx hb dL_law_128 rfl (lv_at hl 1 rfl) ?_
      refine lv_aload_n hx hb dL_law_129 rfl (lv_at hl 0 rfl) ?_
      refine lv_iload_n hx hb dL_law_130 rfl (lv_at hl 3 rfl) ?_
      refine lv_iconst (v := 1) hx hb dL_law_131 (by decide) ?_
      refine lv_iadd hx hb dL_law_132 ?_
      rw [ei1]
      refine va_sld hx hb hX hbl hbA hS hi1 dL_law_133 ?_
      refine q_callFXi hM (c_X6_write l D cI cJ g ad j _ _ _ h1) hP hD hS ky_X6_write ml_L_13 rfl rfl ⟨(Nat.le_of_ble_eq_true rfl), (Nat.le_of_ble_eq_true rfl)⟩ rfl rfl hl.1 rfl (Nat.le_of_ble_eq_true rfl) ⟨(Nat.le_of_ble_eq_true rfl), (Nat.le_of_ble_eq_true rfl)⟩ dL_law_134 (fun H locs hP hD hS => ?_)
      refine lv_aload_n hx hb dL_law_137 rfl (lv_at hl 2 rfl) ?_
      refine lv_aload_n hx hb dL_law_138 rfl (lv_at hl 0 rfl) ?_
      refine lv_iload_n hx hb dL_law_139 rfl (lv_at hl 3 rfl) ?_
      refine lv_iconst (v := 1) hx hb dL_law_140 (by decide) ?_
      refine lv_iadd hx hb dL_law_141 ?_
      rw [ei1]
      refine va_sld hx hb hX hbl hbA hS hi1 dL_law_142 ?_
      refine q_callFMi hM (c_X7_write l D cI cJ g ad2 _ _ _ h2) hP hD hS ky_X7_write ml_L_17 rfl rfl ⟨(Nat.le_of_ble_eq_true rfl), (Nat.le_of_ble_eq_true rfl)⟩ rfl rfl hl.1 rfl (Nat.le_of_ble_eq_true rfl) ⟨(Nat.le_of_ble_eq_true rfl), (Nat.le_of_ble_eq_true rfl)⟩ dL_law_143 (fun H locs hP hD hS => ?_)
      refine lv_icmp_eq (tgt := 639) hx hb dL_law_146 (by decide) (fun _ => ?_) (fun h => absurd rfl h)
      exact hgo x2 j y2 hI H locs hP hD hS
    by_cases hc1 : v = 1
    · obtain ⟨r, x2, y2, h1, h2, hI⟩ := hSim.2.2.1 x j y hI
      refine lv_tableIn (off := 119) (tgt := 151) hx hb dL_law_32 (by rw [hc1]; decide) (by rw [hc1]; decide) (by rw [hc1]; rfl) (by decide) ?_
      refine lv_aload_n hx hb dL_law_151 rfl (lv_at hl 1 rfl) ?_
      refine q_callFXi hM (c_X6_wipe l D cI cJ g ad j _ _ h1) hP hD hS ky_X6_wipe ml_L_18 rfl rfl ⟨(Nat.le_of_ble_eq_true rfl), (Nat.le_of_ble_eq_true rfl)⟩ rfl rfl hl.1 rfl (Nat.le_of_ble_eq_true rfl) ⟨(Nat.le_of_ble_eq_true rfl), (Nat.le_of_ble_eq_true rfl)⟩ dL_law_152 (fun H locs hP hD hS => ?_)
      refine lv_aload_n hx hb dL_law_155 rfl (lv_at hl 2 rfl) ?_
      refine q_callFMi hM (c_X7_wipe l D cI cJ g ad2 _ _ h2) hP hD hS ky_X7_wipe ml_L_22 rfl rfl ⟨(Nat.le_of_ble_eq_true rfl), (Nat.le_of_ble_eq_true rfl)⟩ rfl rfl hl.1 rfl (Nat.le_of_ble_eq_true rfl) ⟨(Nat.le_of_ble_eq_true rfl), (Nat.le_of_ble_eq_true rfl)⟩ dL_law_156 (fun H locs hP hD hS => ?_)
      refine lv_icmp_eq (tgt := 639) hx hb dL_law_159 (by decide) (fun _ => ?_) (fun h => absurd rfl h)
      exact hgo x2 j y2 hI H locs hP hD hS
    by_cases hc2 : v = 2
    · obtain ⟨r, x2, y2, h1, h2, hI⟩ := hSim.2.2.2.1 x j y hI
      refine lv_tableIn (off := 132) (tgt := 164) hx hb dL_law_32 (by rw [hc2]; decide) (by rw [hc2]; decide) (by rw [hc2]; rfl) (by decide) ?_
      refine lv_aload_n hx hb dL_law_164 rfl (lv_at hl 1 rfl) ?_
      refine q_callFXi hM (c_X6_fault l D cI cJ g ad j _ _ h1) hP hD hS ky_X6_fault ml_L_23 rfl rfl ⟨(Nat.le_of_ble_eq_true rfl), (Nat.le_of_ble_eq_true rfl)⟩ rfl rfl hl.1 rfl (Nat.le_of_ble_eq_true rfl) ⟨(Nat.le_of_ble_eq_true rfl), (Nat.le_of_ble_eq_true rfl)⟩ dL_law_165 (fun H locs hP hD hS => ?_)
      refine lv_aload_n hx hb dL_law_168 rfl (lv_at hl 2 rfl) ?_
      refine q_callFMi hM (c_X7_fault l D cI cJ g ad2 _ _ h2) hP hD hS ky_X7_fault ml_L_26 rfl rfl ⟨(Nat.le_of_ble_eq_true rfl), (Nat.le_of_ble_eq_true rfl)⟩ rfl rfl hl.1 rfl (Nat.le_of_ble_eq_true rfl) ⟨(Nat.le_of_ble_eq_true rfl), (Nat.le_of_ble_eq_true rfl)⟩ dL_law_169 (fun H locs hP hD hS => ?_)
      refine lv_icmp_eq (tgt := 639) hx hb dL_law_172 (by decide) (fun _ => ?_) (fun h => absurd rfl h)
      exact hgo x2 j y2 hI H locs hP hD hS
    by_cases hc3 : v = 3
    · obtain ⟨r, x2, y2, h1, h2, hI⟩ := hSim.2.2.2.2.1 x j y hI
      refine lv_tableIn (off := 145) (tgt := 177) hx hb dL_law_32 (by rw [hc3]; decide) (by rw [hc3]; decide) (by rw [hc3]; rfl) (by decide) ?_
      refine lv_aload_n hx hb dL_law_177 rfl (lv_at hl 1 rfl) ?_
      refine q_callFXi hM (c_X6_lay l D cI cJ g ad j _ _ h1) hP hD hS ky_X6_lay ml_L_27 rfl rfl ⟨(Nat.le_of_ble_eq_true rfl), (Nat.le_of_ble_eq_true rfl)⟩ rfl rfl hl.1 rfl (Nat.le_of_ble_eq_true rfl) ⟨(Nat.le_of_ble_eq_true rfl), (Nat.le_of_ble_eq_true rfl)⟩ dL_law_178 (fun H locs hP hD hS => ?_)
      refine lv_aload_n hx hb dL_law_181 rfl (lv_at hl 2 rfl) ?_
      refine q_callFMi hM (c_X7_lay l D cI cJ g ad2 _ _ h2) hP hD hS ky_X7_lay ml_L_30 rfl rfl ⟨(Nat.le_of_ble_eq_true rfl), (Nat.le_of_ble_eq_true rfl)⟩ rfl rfl hl.1 rfl (Nat.le_of_ble_eq_true rfl) ⟨(Nat.le_of_ble_eq_true rfl), (Nat.le_of_ble_eq_true rfl)⟩ dL_law_182 (fun H locs hP hD hS => ?_)
      refine lv_icmp_eq (tgt := 639) hx hb dL_law_185 (by decide) (fun _ => ?_) (fun h => absurd rfl h)
      exact hgo x2 j y2 hI H locs hP hD hS
    by_cases hc4 : v = 4
    · obtain ⟨r, x2, y2, h1, h2, hI⟩ := hSim.2.2.2.2.2.1 x j y hI (xs (nI (n0 + 1)).toNatClampNeg) (xs (nI (n0 + 2)).toNatClampNeg)
      refine lv_tableIn (off := 158) (tgt := 190) hx hb dL_law_32 (by rw [hc4]; decide) (by rw [hc4]; decide) (by rw [hc4]; rfl) (by decide) ?_
      refine lv_aload_n hx hb dL_law_190 rfl (lv_at hl 1 rfl) ?_
      refine lv_aload_n hx hb dL_law_191 rfl (lv_at hl 0 rfl) ?_
      refine lv_iload_n hx hb dL_law_192 rfl (lv_at hl 3 rfl) ?_
      refine lv_iconst (v := 1) hx hb dL_law_193 (by decide) ?_
      refine lv_iadd hx hb dL_law_194 ?_
      rw [ei1]
      refine va_sld hx hb hX hbl hbA hS hi1 dL_law_195 ?_
      refine lv_aload_n hx hb dL_law_196 rfl (lv_at hl 0 rfl) ?_
      refine lv_iload_n hx hb dL_law_197 rfl (lv_at hl 3 rfl) ?_
      refine lv_iconst (v := 2) hx hb dL_law_198 (by decide) ?_
      refine lv_iadd hx hb dL_law_199 ?_
      rw [ei2]
      refine va_sld hx hb hX hbl hbA hS hi2 dL_law_200 ?_
      refine q_callFXi hM (c_X6_power l D cI cJ g ad j _ _ _ _ h1) hP hD hS ky_X6_power ml_L_31 rfl rfl ⟨(Nat.le_of_ble_eq_true rfl), (Nat.le_of_ble_eq_true rfl)⟩ rfl rfl hl.1 rfl (Nat.le_of_ble_eq_true rfl) ⟨(Nat.le_of_ble_eq_true rfl), (Nat.le_of_ble_eq_true rfl)⟩ dL_law_201 (fun H locs hP hD hS => ?_)
      refine lv_aload_n hx hb dL_law_204 rfl (lv_at hl 2 rfl) ?_
      refine lv_aload_n hx hb dL_law_205 rfl (lv_at hl 0 rfl) ?_
      refine lv_iload_n hx hb dL_law_206 rfl (lv_at hl 3 rfl) ?_
      refine lv_iconst (v := 1) hx hb dL_law_207 (by decide) ?_
      refine lv_iadd hx hb dL_law_208 ?_
      rw [ei1]
      refine va_sld hx hb hX hbl hbA hS hi1 dL_law_209 ?_
      refine lv_aload_n hx hb dL_law_210 rfl (lv_at hl 0 rfl) ?_
      refine lv_iload_n hx hb dL_law_211 rfl (lv_at hl 3 rfl) ?_
      refine lv_iconst (v := 2) hx hb dL_law_212 (by decide) ?_
      refine lv_iadd hx hb dL_law_213 ?_
      rw [ei2]
      refine va_sld hx hb hX hbl hbA hS hi2 dL_law_214 ?_
      refine q_callFMi hM (c_X7_power l D cI cJ g ad2 _ _ _ _ h2) hP hD hS ky_X7_power ml_L_35 rfl rfl ⟨(Nat.le_of_ble_eq_true rfl), (Nat.le_of_ble_eq_true rfl)⟩ rfl rfl hl.1 rfl (Nat.le_of_ble_eq_true rfl) ⟨(Nat.le_of_ble_eq_true rfl), (Nat.le_of_ble_eq_true rfl)⟩ dL_law_215 (fun H locs hP hD hS => ?_)
      refine lv_icmp_eq (tgt := 639) hx hb dL_law_218 (by decide) (fun _ => ?_) (fun h => absurd rfl h)
      exact hgo x2 j y2 hI H locs hP hD hS
    by_cases hc5 : v = 5
    · obtain ⟨r, x2, y2, h1, h2, hI⟩ := hSim.2.2.2.2.2.2.1 x j y hI (xs (nI (n0 + 1)).toNatClampNeg) (xs (nI (n0 + 2)).toNatClampNeg)
      refine lv_tableIn (off := 191) (tgt := 223) hx hb dL_law_32 (by rw [hc5]; decide) (by rw [hc5]; decide) (by rw [hc5]; rfl) (by decide) ?_
      refine lv_aload_n hx hb dL_law_223 rfl (lv_at hl 1 rfl) ?_
      refine lv_aload_n hx hb dL_law_224 rfl (lv_at hl 0 rfl) ?_
      refine lv_iload_n hx hb dL_law_225 rfl (lv_at hl 3 rfl) ?_
      refine lv_iconst (v := 1) hx hb dL_law_226 (by decide) ?_
      refine lv_iadd hx hb dL_law_227 ?_
      rw [ei1]
      refine va_sld hx hb hX hbl hbA hS hi1 dL_law_228 ?_
      refine lv_aload_n hx hb dL_law_229 rfl (lv_at hl 0 rfl) ?_
      refine lv_iload_n hx hb dL_law_230 rfl (lv_at hl 3 rfl) ?_
      refine lv_iconst (v := 2) hx hb dL_law_231 (by decide) ?_
      refine lv_iadd hx hb dL_law_232 ?_
      rw [ei2]
      refine va_sld hx hb hX hbl hbA hS hi2 dL_law_233 ?_
      refine q_callFXi hM (c_X6_leave l D cI cJ g ad j _ _ _ _ h1) hP hD hS ky_X6_leave ml_L_36 rfl rfl ⟨(Nat.le_of_ble_eq_true rfl), (Nat.le_of_ble_eq_true rfl)⟩ rfl rfl hl.1 rfl (Nat.le_of_ble_eq_true rfl) ⟨(Nat.le_of_ble_eq_true rfl), (Nat.le_of_ble_eq_true rfl)⟩ dL_law_234 (fun H locs hP hD hS => ?_)
      refine lv_aload_n hx hb dL_law_237 rfl (lv_at hl 2 rfl) ?_
      refine lv_aload_n hx hb dL_law_238 rfl (lv_at hl 0 rfl) ?_
      refine lv_iload_n hx hb dL_law_239 rfl (lv_at hl 3 rfl) ?_
      refine lv_iconst (v := 1) hx hb dL_law_240 (by decide) ?_
      refine lv_iadd hx hb dL_law_241 ?_
      rw [ei1]
      refine va_sld hx hb hX hbl hbA hS hi1 dL_law_242 ?_
      refine lv_aload_n hx hb dL_law_243 rfl (lv_at hl 0 rfl) ?_
      refine lv_iload_n hx hb dL_law_244 rfl (lv_at hl 3 rfl) ?_
      refine lv_iconst (v := 2) hx hb dL_law_245 (by decide) ?_
      refine lv_iadd hx hb dL_law_246 ?_
      rw [ei2]
      refine va_sld hx hb hX hbl hbA hS hi2 dL_law_247 ?_
      refine q_callFMi hM (c_X7_leave l D cI cJ g ad2 _ _ _ _ h2) hP hD hS ky_X7_leave ml_L_39 rfl rfl ⟨(Nat.le_of_ble_eq_true rfl), (Nat.le_of_ble_eq_true rfl)⟩ rfl rfl hl.1 rfl (Nat.le_of_ble_eq_true rfl) ⟨(Nat.le_of_ble_eq_true rfl), (Nat.le_of_ble_eq_true rfl)⟩ dL_law_248 (fun H locs hP hD hS => ?_)
      refine lv_icmp_eq (tgt := 639) hx hb dL_law_251 (by decide) (fun _ => ?_) (fun h => absurd rfl h)
      exact hgo x2 j y2 hI H locs hP hD hS
    by_cases hc6 : v = 6
    · obtain ⟨r, x2, y2, h1, h2, hI⟩ := hSim.2.2.2.2.2.2.2.1 x j y hI (xs (nI (n0 + 1)).toNatClampNeg) (xs (nI (n0 + 2)).toNatClampNeg)
      refine lv_tableIn (off := 224) (tgt := 256) hx hb dL_law_32 (by rw [hc6]; decide) (by rw [hc6]; decide) (by rw [hc6]; rfl) (by decide) ?_
      refine lv_aload_n hx hb dL_law_256 rfl (lv_at hl 1 rfl) ?_
      refine lv_aload_n hx hb dL_law_257 rfl (lv_at hl 0 rfl) ?_
      refine lv_iload_n hx hb dL_law_258 rfl (lv_at hl 3 rfl) ?_
      refine lv_iconst (v := 1) hx hb dL_law_259 (by decide) ?_
      refine lv_iadd hx hb dL_law_260 ?_
      rw [ei1]
      refine va_sld hx hb hX hbl hbA hS hi1 dL_law_261 ?_
      refine lv_aload_n hx hb dL_law_262 rfl (lv_at hl 0 rfl) ?_
      refine lv_iload_n hx hb dL_law_263 rfl (lv_at hl 3 rfl) ?_
      refine lv_iconst (v := 2) hx hb dL_law_264 (by decide) ?_
      refine lv_iadd hx hb dL_law_265 ?_
      rw [ei2]
      refine va_sld hx hb hX hbl hbA hS hi2 dL_law_266 ?_
      refine q_callFXi hM (c_X6_look l D cI cJ g ad j _ _ _ _ h1) hP hD hS ky_X6_look ml_L_40 rfl rfl ⟨(Nat.le_of_ble_eq_true rfl), (Nat.le_of_ble_eq_true rfl)⟩ rfl rfl hl.1 rfl (Nat.le_of_ble_eq_true rfl) ⟨(Nat.le_of_ble_eq_true rfl), (Nat.le_of_ble_eq_true rfl)⟩ dL_law_267 (fun H locs hP hD hS => ?_)
      refine lv_aload_n hx hb dL_law_270 rfl (lv_at hl 2 rfl) ?_
      refine lv_aload_n hx hb dL_law_271 rfl (lv_at hl 0 rfl) ?_
      refine lv_iload_n hx hb dL_law_272 rfl (lv_at hl 3 rfl) ?_
      refine lv_iconst (v := 1) hx hb dL_law_273 (by decide) ?_
      refine lv_iadd hx hb dL_law_274 ?_
      rw [ei1]
      refine va_sld hx hb hX hbl hbA hS hi1 dL_law_275 ?_
      refine lv_aload_n hx hb dL_law_276 rfl (lv_at hl 0 rfl) ?_
      refine lv_iload_n hx hb dL_law_277 rfl (lv_at hl 3 rfl) ?_
      refine lv_iconst (v := 2) hx hb dL_law_278 (by decide) ?_
      refine lv_iadd hx hb dL_law_279 ?_
      rw [ei2]
      refine va_sld hx hb hX hbl hbA hS hi2 dL_law_280 ?_
      refine q_callFMi hM (c_X7_look l D cI cJ g ad2 _ _ _ _ h2) hP hD hS ky_X7_look ml_L_43 rfl rfl ⟨(Nat.le_of_ble_eq_true rfl), (Nat.le_of_ble_eq_true rfl)⟩ rfl rfl hl.1 rfl (Nat.le_of_ble_eq_true rfl) ⟨(Nat.le_of_ble_eq_true rfl), (Nat.le_of_ble_eq_true rfl)⟩ dL_law_281 (fun H locs hP hD hS => ?_)
      refine lv_icmp_eq (tgt := 639) hx hb dL_law_284 (by decide) (fun _ => ?_) (fun h => absurd rfl h)
      exact hgo x2 j y2 hI H locs hP hD hS
    by_cases hc7 : v = 7
    · obtain ⟨r, x2, y2, h1, h2, hI⟩ := hSim.2.2.2.2.2.2.2.2.1 x j y hI (xs (nI (n0 + 1)).toNatClampNeg)
      refine lv_tableIn (off := 257) (tgt := 289) hx hb dL_law_32 (by rw [hc7]; decide) (by rw [hc7]; decide) (by rw [hc7]; rfl) (by decide) ?_
      refine lv_aload_n hx hb dL_law_289 rfl (lv_at hl 1 rfl) ?_
      refine lv_aload_n hx hb dL_law_290 rfl (lv_at hl 0 rfl) ?_
      refine lv_iload_n hx hb dL_law_291 rfl (lv_at hl 3 rfl) ?_
      refine lv_iconst (v := 1) hx hb dL_law_292 (by decide) ?_
      refine lv_iadd hx hb dL_law_293 ?_
      rw [ei1]
      refine va_sld hx hb hX hbl hbA hS hi1 dL_law_294 ?_
      refine q_callFXi hM (c_X6_mode l D cI cJ g ad j _ _ _ h1) hP hD hS ky_X6_mode ml_L_44 rfl rfl ⟨(Nat.le_of_ble_eq_true rfl), (Nat.le_of_ble_eq_true rfl)⟩ rfl rfl hl.1 rfl (Nat.le_of_ble_eq_true rfl) ⟨(Nat.le_of_ble_eq_true rfl), (Nat.le_of_ble_eq_true rfl)⟩ dL_law_295 (fun H locs hP hD hS => ?_)
      refine lv_aload_n hx hb dL_law_298 rfl (lv_at hl 2 rfl) ?_
      refine lv_aload_n hx hb dL_law_299 rfl (lv_at hl 0 rfl) ?_
      refine lv_iload_n hx hb dL_law_300 rfl (lv_at hl 3 rfl) ?_
      refine lv_iconst (v := 1) hx hb dL_law_301 (by decide) ?_
      refine lv_iadd hx hb dL_law_302 ?_
      rw [ei1]
      refine va_sld hx hb hX hbl hbA hS hi1 dL_law_303 ?_
      refine q_callFMi hM (c_X7_mode l D cI cJ g ad2 _ _ _ h2) hP hD hS ky_X7_mode ml_L_47 rfl rfl ⟨(Nat.le_of_ble_eq_true rfl), (Nat.le_of_ble_eq_true rfl)⟩ rfl rfl hl.1 rfl (Nat.le_of_ble_eq_true rfl) ⟨(Nat.le_of_ble_eq_true rfl), (Nat.le_of_ble_eq_true rfl)⟩ dL_law_304 (fun H locs hP hD hS => ?_)
      refine lv_icmp_eq (tgt := 639) hx hb dL_law_307 (by decide) (fun _ => ?_) (fun h => absurd rfl h)
      exact hgo x2 j y2 hI H locs hP hD hS
    by_cases hc8 : v = 8
    · obtain ⟨r, x2, y2, h1, h2, hI⟩ := hSim.2.2.2.2.2.2.2.2.2.1 x j y hI (xs (nI (n0 + 1)).toNatClampNeg)
      refine lv_tableIn (off := 280) (tgt := 312) hx hb dL_law_32 (by rw [hc8]; decide) (by rw [hc8]; decide) (by rw [hc8]; rfl) (by decide) ?_
      refine lv_aload_n hx hb dL_law_312 rfl (lv_at hl 1 rfl) ?_
      refine lv_aload_n hx hb dL_law_313 rfl (lv_at hl 0 rfl) ?_
      refine lv_iload_n hx hb dL_law_314 rfl (lv_at hl 3 rfl) ?_
      refine lv_iconst (v := 1) hx hb dL_law_315 (by decide) ?_
      refine lv_iadd hx hb dL_law_316 ?_
      rw [ei1]
      refine va_sld hx hb hX hbl hbA hS hi1 dL_law_317 ?_
      refine q_callFXi hM (c_X6_slide l D cI cJ g ad j _ _ _ h1) hP hD hS ky_X6_slide ml_L_48 rfl rfl ⟨(Nat.le_of_ble_eq_true rfl), (Nat.le_of_ble_eq_true rfl)⟩ rfl rfl hl.1 rfl (Nat.le_of_ble_eq_true rfl) ⟨(Nat.le_of_ble_eq_true rfl), (Nat.le_of_ble_eq_true rfl)⟩ dL_law_318 (fun H locs hP hD hS => ?_)
      refine lv_aload_n hx hb dL_law_321 rfl (lv_at hl 2 rfl) ?_
      refine lv_aload_n hx hb dL_law_322 rfl (lv_at hl 0 rfl) ?_
      refine lv_iload_n hx hb dL_law_323 rfl (lv_at hl 3 rfl) ?_
      refine lv_iconst (v := 1) hx hb dL_law_324 (by decide) ?_
      refine lv_iadd hx hb dL_law_325 ?_
      rw [ei1]
      refine va_sld hx hb hX hbl hbA hS hi1 dL_law_326 ?_
      refine q_callFMi hM (c_X7_slide l D cI cJ g ad2 _ _ _ h2) hP hD hS ky_X7_slide ml_L_51 rfl rfl ⟨(Nat.le_of_ble_eq_true rfl), (Nat.le_of_ble_eq_true rfl)⟩ rfl rfl hl.1 rfl (Nat.le_of_ble_eq_true rfl) ⟨(Nat.le_of_ble_eq_true rfl), (Nat.le_of_ble_eq_true rfl)⟩ dL_law_327 (fun H locs hP hD hS => ?_)
      refine lv_icmp_eq (tgt := 639) hx hb dL_law_330 (by decide) (fun _ => ?_) (fun h => absurd rfl h)
      exact hgo x2 j y2 hI H locs hP hD hS
    by_cases hc9 : v = 9
    · obtain ⟨r, x2, y2, h1, h2, hI⟩ := hSim.2.2.2.2.2.2.2.2.2.2.1 x j y hI
      refine lv_tableIn (off := 303) (tgt := 335) hx hb dL_law_32 (by rw [hc9]; decide) (by rw [hc9]; decide) (by rw [hc9]; rfl) (by decide) ?_
      refine lv_aload_n hx hb dL_law_335 rfl (lv_at hl 1 rfl) ?_
      refine q_callFXi hM (c_X6_undo l D cI cJ g ad j _ _ h1) hP hD hS ky_X6_undo ml_L_52 rfl rfl ⟨(Nat.le_of_ble_eq_true rfl), (Nat.le_of_ble_eq_true rfl)⟩ rfl rfl hl.1 rfl (Nat.le_of_ble_eq_true rfl) ⟨(Nat.le_of_ble_eq_true rfl), (Nat.le_of_ble_eq_true rfl)⟩ dL_law_336 (fun H locs hP hD hS => ?_)
      refine lv_aload_n hx hb dL_law_339 rfl (lv_at hl 2 rfl) ?_
      refine q_callFMi hM (c_X7_undo l D cI cJ g ad2 _ _ h2) hP hD hS ky_X7_undo ml_L_55 rfl rfl ⟨(Nat.le_of_ble_eq_true rfl), (Nat.le_of_ble_eq_true rfl)⟩ rfl rfl hl.1 rfl (Nat.le_of_ble_eq_true rfl) ⟨(Nat.le_of_ble_eq_true rfl), (Nat.le_of_ble_eq_true rfl)⟩ dL_law_340 (fun H locs hP hD hS => ?_)
      refine lv_icmp_eq (tgt := 639) hx hb dL_law_343 (by decide) (fun _ => ?_) (fun h => absurd rfl h)
      exact hgo x2 j y2 hI H locs hP hD hS
    by_cases hc10 : v = 10
    · obtain ⟨r, x2, y2, h1, h2, hI⟩ := hSim.2.2.2.2.2.2.2.2.2.2.2.1 x j y hI (xs (nI (n0 + 1)).toNatClampNeg) (xs (nI (n0 + 2)).toNatClampNeg)
      refine lv_tableIn (off := 316) (tgt := 348) hx hb dL_law_32 (by rw [hc10]; decide) (by rw [hc10]; decide) (by rw [hc10]; rfl) (by decide) ?_
      refine lv_aload_n hx hb dL_law_348 rfl (lv_at hl 1 rfl) ?_
      refine lv_aload_n hx hb dL_law_349 rfl (lv_at hl 0 rfl) ?_
      refine lv_iload_n hx hb dL_law_350 rfl (lv_at hl 3 rfl) ?_
      refine lv_iconst (v := 1) hx hb dL_law_351 (by decide) ?_
      refine lv_iadd hx hb dL_law_352 ?_
      rw [ei1]
      refine va_sld hx hb hX hbl hbA hS hi1 dL_law_353 ?_
      refine lv_aload_n hx hb dL_law_354 rfl (lv_at hl 0 rfl) ?_
      refine lv_iload_n hx hb dL_law_355 rfl (lv_at hl 3 rfl) ?_
      refine lv_iconst (v := 2) hx hb dL_law_356 (by decide) ?_
      refine lv_iadd hx hb dL_law_357 ?_
      rw [ei2]
      refine va_sld hx hb hX hbl hbA hS hi2 dL_law_358 ?_
      refine q_callFXi hM (c_X6_cell l D cI cJ g ad j _ _ _ _ h1) hP hD hS ky_X6_cell ml_L_56 rfl rfl ⟨(Nat.le_of_ble_eq_true rfl), (Nat.le_of_ble_eq_true rfl)⟩ rfl rfl hl.1 rfl (Nat.le_of_ble_eq_true rfl) ⟨(Nat.le_of_ble_eq_true rfl), (Nat.le_of_ble_eq_true rfl)⟩ dL_law_359 (fun H locs hP hD hS => ?_)
      refine lv_aload_n hx hb dL_law_362 rfl (lv_at hl 2 rfl) ?_
      refine lv_aload_n hx hb dL_law_363 rfl (lv_at hl 0 rfl) ?_
      refine lv_iload_n hx hb dL_law_364 rfl (lv_at hl 3 rfl) ?_
      refine lv_iconst (v := 1) hx hb dL_law_365 (by decide) ?_
      refine lv_iadd hx hb dL_law_366 ?_
      rw [ei1]
      refine va_sld hx hb hX hbl hbA hS hi1 dL_law_367 ?_
      refine lv_aload_n hx hb dL_law_368 rfl (lv_at hl 0 rfl) ?_
      refine lv_iload_n hx hb dL_law_369 rfl (lv_at hl 3 rfl) ?_
      refine lv_iconst (v := 2) hx hb dL_law_370 (by decide) ?_
      refine lv_iadd hx hb dL_law_371 ?_
      rw [ei2]
      refine va_sld hx hb hX hbl hbA hS hi2 dL_law_372 ?_
      refine q_callFMi hM (c_X7_cell l D cI cJ g ad2 _ _ _ _ h2) hP hD hS ky_X7_cell ml_L_59 rfl rfl ⟨(Nat.le_of_ble_eq_true rfl), (Nat.le_of_ble_eq_true rfl)⟩ rfl rfl hl.1 rfl (Nat.le_of_ble_eq_true rfl) ⟨(Nat.le_of_ble_eq_true rfl), (Nat.le_of_ble_eq_true rfl)⟩ dL_law_373 (fun H locs hP hD hS => ?_)
      refine lv_icmp_eq (tgt := 639) hx hb dL_law_376 (by decide) (fun _ => ?_) (fun h => absurd rfl h)
      exact hgo x2 j y2 hI H locs hP hD hS
    by_cases hc11 : v = 11
    · obtain ⟨r, x2, y2, h1, h2, hI⟩ := hSim.2.2.2.2.2.2.2.2.2.2.2.2.1 x j y hI (xs (nI (n0 + 1)).toNatClampNeg) (xs (nI (n0 + 2)).toNatClampNeg) (xs (nI (n0 + 3)).toNatClampNeg)
      refine lv_tableIn (off := 349) (tgt := 381) hx hb dL_law_32 (by rw [hc11]; decide) (by rw [hc11]; decide) (by rw [hc11]; rfl) (by decide) ?_
      refine lv_aload_n hx hb dL_law_381 rfl (lv_at hl 1 rfl) ?_
      refine lv_aload_n hx hb dL_law_382 rfl (lv_at hl 0 rfl) ?_
      refine lv_iload_n hx hb dL_law_383 rfl (lv_at hl 3 rfl) ?_
      refine lv_iconst (v := 1) hx hb dL_law_384 (by decide) ?_
      refine lv_iadd hx hb dL_law_385 ?_
      rw [ei1]
      refine va_sld hx hb hX hbl hbA hS hi1 dL_law_386 ?_
      refine lv_aload_n hx hb dL_law_387 rfl (lv_at hl 0 rfl) ?_
      refine lv_iload_n hx hb dL_law_388 rfl (lv_at hl 3 rfl) ?_
      refine lv_iconst (v := 2) hx hb dL_law_389 (by decide) ?_
      refine lv_iadd hx hb dL_law_390 ?_
      rw [ei2]
      refine va_sld hx hb hX hbl hbA hS hi2 dL_law_391 ?_
      refine lv_aload_n hx hb dL_law_392 rfl (lv_at hl 0 rfl) ?_
      refine lv_iload_n hx hb dL_law_393 rfl (lv_at hl 3 rfl) ?_
      refine lv_iconst (v := 3) hx hb dL_law_394 (by decide) ?_
      refine lv_iadd hx hb dL_law_395 ?_
      rw [ei3]
      refine va_sld hx hb hX hbl hbA hS hi3 dL_law_396 ?_
      refine q_callFXi hM (c_X6_ranked l D cI cJ g ad j _ _ _ _ _ h1) hP hD hS ky_X6_ranked ml_L_60 rfl rfl ⟨(Nat.le_of_ble_eq_true rfl), (Nat.le_of_ble_eq_true rfl)⟩ rfl rfl hl.1 rfl (Nat.le_of_ble_eq_true rfl) ⟨(Nat.le_of_ble_eq_true rfl), (Nat.le_of_ble_eq_true rfl)⟩ dL_law_397 (fun H locs hP hD hS => ?_)
      refine lv_aload_n hx hb dL_law_400 rfl (lv_at hl 2 rfl) ?_
      refine lv_aload_n hx hb dL_law_401 rfl (lv_at hl 0 rfl) ?_
      refine lv_iload_n hx hb dL_law_402 rfl (lv_at hl 3 rfl) ?_
      refine lv_iconst (v := 1) hx hb dL_law_403 (by decide) ?_
      refine lv_iadd hx hb dL_law_404 ?_
      rw [ei1]
      refine va_sld hx hb hX hbl hbA hS hi1 dL_law_405 ?_
      refine lv_aload_n hx hb dL_law_406 rfl (lv_at hl 0 rfl) ?_
      refine lv_iload_n hx hb dL_law_407 rfl (lv_at hl 3 rfl) ?_
      refine lv_iconst (v := 2) hx hb dL_law_408 (by decide) ?_
      refine lv_iadd hx hb dL_law_409 ?_
      rw [ei2]
      refine va_sld hx hb hX hbl hbA hS hi2 dL_law_410 ?_
      refine lv_aload_n hx hb dL_law_411 rfl (lv_at hl 0 rfl) ?_
      refine lv_iload_n hx hb dL_law_412 rfl (lv_at hl 3 rfl) ?_
      refine lv_iconst (v := 3) hx hb dL_law_413 (by decide) ?_
      refine lv_iadd hx hb dL_law_414 ?_
      rw [ei3]
      refine va_sld hx hb hX hbl hbA hS hi3 dL_law_415 ?_
      refine q_callFMi hM (c_X7_ranked l D cI cJ g ad2 _ _ _ _ _ h2) hP hD hS ky_X7_ranked ml_L_64 rfl rfl ⟨(Nat.le_of_ble_eq_true rfl), (Nat.le_of_ble_eq_true rfl)⟩ rfl rfl hl.1 rfl (Nat.le_of_ble_eq_true rfl) ⟨(Nat.le_of_ble_eq_true rfl), (Nat.le_of_ble_eq_true rfl)⟩ dL_law_416 (fun H locs hP hD hS => ?_)
      refine lv_icmp_eq (tgt := 639) hx hb dL_law_419 (by decide) (fun _ => ?_) (fun h => absurd rfl h)
      exact hgo x2 j y2 hI H locs hP hD hS
    by_cases hc12 : v = 12
    · obtain ⟨r, x2, y2, h1, h2, hI⟩ := hSim.2.2.2.2.2.2.2.2.2.2.2.2.2.1 x j y hI (xs (nI (n0 + 1)).toNatClampNeg) (xs (nI (n0 + 2)).toNatClampNeg)
      refine lv_tableIn (off := 392) (tgt := 424) hx hb dL_law_32 (by rw [hc12]; decide) (by rw [hc12]; decide) (by rw [hc12]; rfl) (by decide) ?_
      refine lv_aload_n hx hb dL_law_424 rfl (lv_at hl 1 rfl) ?_
      refine lv_aload_n hx hb dL_law_425 rfl (lv_at hl 0 rfl) ?_
      refine lv_iload_n hx hb dL_law_426 rfl (lv_at hl 3 rfl) ?_
      refine lv_iconst (v := 1) hx hb dL_law_427 (by decide) ?_
      refine lv_iadd hx hb dL_law_428 ?_
      rw [ei1]
      refine va_sld hx hb hX hbl hbA hS hi1 dL_law_429 ?_
      refine lv_aload_n hx hb dL_law_430 rfl (lv_at hl 0 rfl) ?_
      refine lv_iload_n hx hb dL_law_431 rfl (lv_at hl 3 rfl) ?_
      refine lv_iconst (v := 2) hx hb dL_law_432 (by decide) ?_
      refine lv_iadd hx hb dL_law_433 ?_
      rw [ei2]
      refine va_sld hx hb hX hbl hbA hS hi2 dL_law_434 ?_
      refine q_callFXi hM (c_X6_hides l D cI cJ g ad j _ _ _ _ h1) hP hD hS ky_X6_hides ml_L_65 rfl rfl ⟨(Nat.le_of_ble_eq_true rfl), (Nat.le_of_ble_eq_true rfl)⟩ rfl rfl hl.1 rfl (Nat.le_of_ble_eq_true rfl) ⟨(Nat.le_of_ble_eq_true rfl), (Nat.le_of_ble_eq_true rfl)⟩ dL_law_435 (fun H locs hP hD hS => ?_)
      refine lv_aload_n hx hb dL_law_438 rfl (lv_at hl 2 rfl) ?_
      refine lv_aload_n hx hb dL_law_439 rfl (lv_at hl 0 rfl) ?_
      refine lv_iload_n hx hb dL_law_440 rfl (lv_at hl 3 rfl) ?_
      refine lv_iconst (v := 1) hx hb dL_law_441 (by decide) ?_
      refine lv_iadd hx hb dL_law_442 ?_
      rw [ei1]
      refine va_sld hx hb hX hbl hbA hS hi1 dL_law_443 ?_
      refine lv_aload_n hx hb dL_law_444 rfl (lv_at hl 0 rfl) ?_
      refine lv_iload_n hx hb dL_law_445 rfl (lv_at hl 3 rfl) ?_
      refine lv_iconst (v := 2) hx hb dL_law_446 (by decide) ?_
      refine lv_iadd hx hb dL_law_447 ?_
      rw [ei2]
      refine va_sld hx hb hX hbl hbA hS hi2 dL_law_448 ?_
      refine q_callFMi hM (c_X7_hides l D cI cJ g ad2 _ _ _ _ h2) hP hD hS ky_X7_hides ml_L_68 rfl rfl ⟨(Nat.le_of_ble_eq_true rfl), (Nat.le_of_ble_eq_true rfl)⟩ rfl rfl hl.1 rfl (Nat.le_of_ble_eq_true rfl) ⟨(Nat.le_of_ble_eq_true rfl), (Nat.le_of_ble_eq_true rfl)⟩ dL_law_449 (fun H locs hP hD hS => ?_)
      refine lv_icmp_eq (tgt := 639) hx hb dL_law_452 (by decide) (fun _ => ?_) (fun h => absurd rfl h)
      exact hgo x2 j y2 hI H locs hP hD hS
    by_cases hc13 : v = 13
    · obtain ⟨r, x2, y2, h1, h2, hI⟩ := hSim.2.2.2.2.2.2.2.2.2.2.2.2.2.2.1 x j y hI (xs (nI (n0 + 1)).toNatClampNeg) (xs (nI (n0 + 2)).toNatClampNeg)
      refine lv_tableIn (off := 425) (tgt := 457) hx hb dL_law_32 (by rw [hc13]; decide) (by rw [hc13]; decide) (by rw [hc13]; rfl) (by decide) ?_
      refine lv_aload_n hx hb dL_law_457 rfl (lv_at hl 1 rfl) ?_
      refine lv_aload_n hx hb dL_law_458 rfl (lv_at hl 0 rfl) ?_
      refine lv_iload_n hx hb dL_law_459 rfl (lv_at hl 3 rfl) ?_
      refine lv_iconst (v := 1) hx hb dL_law_460 (by decide) ?_
      refine lv_iadd hx hb dL_law_461 ?_
      rw [ei1]
      refine va_sld hx hb hX hbl hbA hS hi1 dL_law_462 ?_
      refine lv_aload_n hx hb dL_law_463 rfl (lv_at hl 0 rfl) ?_
      refine lv_iload_n hx hb dL_law_464 rfl (lv_at hl 3 rfl) ?_
      refine lv_iconst (v := 2) hx hb dL_law_465 (by decide) ?_
      refine lv_iadd hx hb dL_law_466 ?_
      rw [ei2]
      refine va_sld hx hb hX hbl hbA hS hi2 dL_law_467 ?_
      refine q_callFXi hM (c_X6_bunch l D cI cJ g ad j _ _ _ _ h1) hP hD hS ky_X6_bunch ml_L_69 rfl rfl ⟨(Nat.le_of_ble_eq_true rfl), (Nat.le_of_ble_eq_true rfl)⟩ rfl rfl hl.1 rfl (Nat.le_of_ble_eq_true rfl) ⟨(Nat.le_of_ble_eq_true rfl), (Nat.le_of_ble_eq_true rfl)⟩ dL_law_468 (fun H locs hP hD hS => ?_)
      refine lv_aload_n hx hb dL_law_471 rfl (lv_at hl 2 rfl) ?_
      refine lv_aload_n hx hb dL_law_472 rfl (lv_at hl 0 rfl) ?_
      refine lv_iload_n hx hb dL_law_473 rfl (lv_at hl 3 rfl) ?_
      refine lv_iconst (v := 1) hx hb dL_law_474 (by decide) ?_
      refine lv_iadd hx hb dL_law_475 ?_
      rw [ei1]
      refine va_sld hx hb hX hbl hbA hS hi1 dL_law_476 ?_
      refine lv_aload_n hx hb dL_law_477 rfl (lv_at hl 0 rfl) ?_
      refine lv_iload_n hx hb dL_law_478 rfl (lv_at hl 3 rfl) ?_
      refine lv_iconst (v := 2) hx hb dL_law_479 (by decide) ?_
      refine lv_iadd hx hb dL_law_480 ?_
      rw [ei2]
      refine va_sld hx hb hX hbl hbA hS hi2 dL_law_481 ?_
      refine q_callFMi hM (c_X7_bunch l D cI cJ g ad2 _ _ _ _ h2) hP hD hS ky_X7_bunch ml_L_72 rfl rfl ⟨(Nat.le_of_ble_eq_true rfl), (Nat.le_of_ble_eq_true rfl)⟩ rfl rfl hl.1 rfl (Nat.le_of_ble_eq_true rfl) ⟨(Nat.le_of_ble_eq_true rfl), (Nat.le_of_ble_eq_true rfl)⟩ dL_law_482 (fun H locs hP hD hS => ?_)
      refine lv_icmp_eq (tgt := 639) hx hb dL_law_485 (by decide) (fun _ => ?_) (fun h => absurd rfl h)
      exact hgo x2 j y2 hI H locs hP hD hS
    by_cases hc14 : v = 14
    · obtain ⟨r, x2, y2, h1, h2, hI⟩ := hSim.2.2.2.2.2.2.2.2.2.2.2.2.2.2.2.1 x j y hI (xs (nI (n0 + 1)).toNatClampNeg)
      refine lv_tableIn (off := 458) (tgt := 490) hx hb dL_law_32 (by rw [hc14]; decide) (by rw [hc14]; decide) (by rw [hc14]; rfl) (by decide) ?_
      refine lv_aload_n hx hb dL_law_490 rfl (lv_at hl 1 rfl) ?_
      refine lv_aload_n hx hb dL_law_491 rfl (lv_at hl 0 rfl) ?_
      refine lv_iload_n hx hb dL_law_492 rfl (lv_at hl 3 rfl) ?_
      refine lv_iconst (v := 1) hx hb dL_law_493 (by decide) ?_
      refine lv_iadd hx hb dL_law_494 ?_
      rw [ei1]
      refine va_sld hx hb hX hbl hbA hS hi1 dL_law_495 ?_
      refine q_callFXi hM (c_X6_enough l D cI cJ g ad j _ _ _ h1) hP hD hS ky_X6_enough ml_L_73 rfl rfl ⟨(Nat.le_of_ble_eq_true rfl), (Nat.le_of_ble_eq_true rfl)⟩ rfl rfl hl.1 rfl (Nat.le_of_ble_eq_true rfl) ⟨(Nat.le_of_ble_eq_true rfl), (Nat.le_of_ble_eq_true rfl)⟩ dL_law_496 (fun H locs hP hD hS => ?_)
      refine lv_aload_n hx hb dL_law_499 rfl (lv_at hl 2 rfl) ?_
      refine lv_aload_n hx hb dL_law_500 rfl (lv_at hl 0 rfl) ?_
      refine lv_iload_n hx hb dL_law_501 rfl (lv_at hl 3 rfl) ?_
      refine lv_iconst (v := 1) hx hb dL_law_502 (by decide) ?_
      refine lv_iadd hx hb dL_law_503 ?_
      rw [ei1]
      refine va_sld hx hb hX hbl hbA hS hi1 dL_law_504 ?_
      refine q_callFMi hM (c_X7_enough l D cI cJ g ad2 _ _ _ h2) hP hD hS ky_X7_enough ml_L_76 rfl rfl ⟨(Nat.le_of_ble_eq_true rfl), (Nat.le_of_ble_eq_true rfl)⟩ rfl rfl hl.1 rfl (Nat.le_of_ble_eq_true rfl) ⟨(Nat.le_of_ble_eq_true rfl), (Nat.le_of_ble_eq_true rfl)⟩ dL_law_505 (fun H locs hP hD hS => ?_)
      refine lv_icmp_eq (tgt := 639) hx hb dL_law_508 (by decide) (fun _ => ?_) (fun h => absurd rfl h)
      exact hgo x2 j y2 hI H locs hP hD hS
    by_cases hc15 : v = 15
    · obtain ⟨r, h1, h2⟩ := hSim.2.2.2.2.2.2.2.2.2.2.2.2.2.2.2.2.1 x j y hI (xs (nI (n0 + 1)).toNatClampNeg)
      refine lv_tableIn (off := 481) (tgt := 513) hx hb dL_law_32 (by rw [hc15]; decide) (by rw [hc15]; decide) (by rw [hc15]; rfl) (by decide) ?_
      refine lv_aload_n hx hb dL_law_513 rfl (lv_at hl 1 rfl) ?_
      refine lv_aload_n hx hb dL_law_514 rfl (lv_at hl 0 rfl) ?_
      refine lv_iload_n hx hb dL_law_515 rfl (lv_at hl 3 rfl) ?_
      refine lv_iconst (v := 1) hx hb dL_law_516 (by decide) ?_
      refine lv_iadd hx hb dL_law_517 ?_
      rw [ei1]
      refine va_sld hx hb hX hbl hbA hS hi1 dL_law_518 ?_
      refine q_callFXi hM (c_X6_noise l D cI cJ g ad j _ _ _ h1) hP hD hS ky_X6_noise ml_L_77 rfl rfl ⟨(Nat.le_of_ble_eq_true rfl), (Nat.le_of_ble_eq_true rfl)⟩ rfl rfl hl.1 rfl (Nat.le_of_ble_eq_true rfl) ⟨(Nat.le_of_ble_eq_true rfl), (Nat.le_of_ble_eq_true rfl)⟩ dL_law_519 (fun H locs hP hD hS => ?_)
      refine lv_aload_n hx hb dL_law_522 rfl (lv_at hl 2 rfl) ?_
      refine lv_aload_n hx hb dL_law_523 rfl (lv_at hl 0 rfl) ?_
      refine lv_iload_n hx hb dL_law_524 rfl (lv_at hl 3 rfl) ?_
      refine lv_iconst (v := 1) hx hb dL_law_525 (by decide) ?_
      refine lv_iadd hx hb dL_law_526 ?_
      rw [ei1]
      refine va_sld hx hb hX hbl hbA hS hi1 dL_law_527 ?_
      refine q_callFMi hM (c_X7_noise l D cI cJ g ad2 _ _ _ h2) hP hD hS ky_X7_noise ml_L_80 rfl rfl ⟨(Nat.le_of_ble_eq_true rfl), (Nat.le_of_ble_eq_true rfl)⟩ rfl rfl hl.1 rfl (Nat.le_of_ble_eq_true rfl) ⟨(Nat.le_of_ble_eq_true rfl), (Nat.le_of_ble_eq_true rfl)⟩ dL_law_528 (fun H locs hP hD hS => ?_)
      refine lv_icmp_eq (tgt := 639) hx hb dL_law_531 (by decide) (fun _ => ?_) (fun h => absurd rfl h)
      exact hgo x j y hI H locs hP hD hS
    by_cases hc16 : v = 16
    · obtain ⟨r, j2, h1, h2, hI⟩ := hSim.2.2.2.2.2.2.2.2.2.2.2.2.2.2.2.2.2.1 x j y hI (xs (nI (n0 + 1)).toNatClampNeg)
      refine lv_tableIn (off := 504) (tgt := 536) hx hb dL_law_32 (by rw [hc16]; decide) (by rw [hc16]; decide) (by rw [hc16]; rfl) (by decide) ?_
      refine lv_aload_n hx hb dL_law_536 rfl (lv_at hl 1 rfl) ?_
      refine lv_aload_n hx hb dL_law_537 rfl (lv_at hl 0 rfl) ?_
      refine lv_iload_n hx hb dL_law_538 rfl (lv_at hl 3 rfl) ?_
      refine lv_iconst (v := 1) hx hb dL_law_539 (by decide) ?_
      refine lv_iadd hx hb dL_law_540 ?_
      rw [ei1]
      refine va_sld hx hb hX hbl hbA hS hi1 dL_law_541 ?_
      refine q_callFXl hM (c_X6_odds l D cI cJ g ad _ _ _ _ h1) hP hD hS ky_X6_odds ml_L_81 rfl rfl ⟨(Nat.le_of_ble_eq_true rfl), (Nat.le_of_ble_eq_true rfl)⟩ rfl rfl hl.1 rfl (Nat.le_of_ble_eq_true rfl) ⟨(Nat.le_of_ble_eq_true rfl), (Nat.le_of_ble_eq_true rfl)⟩ dL_law_542 (fun H locs hP hD hS => ?_)
      refine lv_aload_n hx hb dL_law_545 rfl (lv_at hl 2 rfl) ?_
      refine lv_aload_n hx hb dL_law_546 rfl (lv_at hl 0 rfl) ?_
      refine lv_iload_n hx hb dL_law_547 rfl (lv_at hl 3 rfl) ?_
      refine lv_iconst (v := 1) hx hb dL_law_548 (by decide) ?_
      refine lv_iadd hx hb dL_law_549 ?_
      rw [ei1]
      refine va_sld hx hb hX hbl hbA hS hi1 dL_law_550 ?_
      refine q_callFMl hM (c_X7_odds l D cI cJ g ad2 _ _ _ h2) hP hD hS ky_X7_odds ml_L_85 rfl rfl ⟨(Nat.le_of_ble_eq_true rfl), (Nat.le_of_ble_eq_true rfl)⟩ rfl rfl hl.1 rfl (Nat.le_of_ble_eq_true rfl) ⟨(Nat.le_of_ble_eq_true rfl), (Nat.le_of_ble_eq_true rfl)⟩ dL_law_551 (fun H locs hP hD hS => ?_)
      refine W.lcmp hx hb dL_law_554 ?_
      refine lv_if_eq (tgt := 639) hx hb dL_law_555 (by decide) (fun _ => ?_) (fun h => absurd (q_lc r) h)
      exact hgo x j2 y hI H locs hP hD hS
    by_cases hc17 : v = 17
    · obtain ⟨r, j2, h1, h2, hI⟩ := hSim.2.2.2.2.2.2.2.2.2.2.2.2.2.2.2.2.2.2.1 x j y hI (xs (nI (n0 + 1)).toNatClampNeg) (xs (nI (n0 + 2)).toNatClampNeg)
      refine lv_tableIn (off := 528) (tgt := 560) hx hb dL_law_32 (by rw [hc17]; decide) (by rw [hc17]; decide) (by rw [hc17]; rfl) (by decide) ?_
      refine lv_aload_n hx hb dL_law_560 rfl (lv_at hl 1 rfl) ?_
      refine lv_aload_n hx hb dL_law_561 rfl (lv_at hl 0 rfl) ?_
      refine lv_iload_n hx hb dL_law_562 rfl (lv_at hl 3 rfl) ?_
      refine lv_iconst (v := 1) hx hb dL_law_563 (by decide) ?_
      refine lv_iadd hx hb dL_law_564 ?_
      rw [ei1]
      refine va_sld hx hb hX hbl hbA hS hi1 dL_law_565 ?_
      refine lv_aload_n hx hb dL_law_566 rfl (lv_at hl 0 rfl) ?_
      refine lv_iload_n hx hb dL_law_567 rfl (lv_at hl 3 rfl) ?_
      refine lv_iconst (v := 2) hx hb dL_law_568 (by decide) ?_
      refine lv_iadd hx hb dL_law_569 ?_
      rw [ei2]
      refine va_sld hx hb hX hbl hbA hS hi2 dL_law_570 ?_
      refine q_callFXi hM (c_X6_factor l D cI cJ g ad _ _ _ _ _ h1) hP hD hS ky_X6_factor ml_L_86 rfl rfl ⟨(Nat.le_of_ble_eq_true rfl), (Nat.le_of_ble_eq_true rfl)⟩ rfl rfl hl.1 rfl (Nat.le_of_ble_eq_true rfl) ⟨(Nat.le_of_ble_eq_true rfl), (Nat.le_of_ble_eq_true rfl)⟩ dL_law_571 (fun H locs hP hD hS => ?_)
      refine lv_aload_n hx hb dL_law_574 rfl (lv_at hl 2 rfl) ?_
      refine lv_aload_n hx hb dL_law_575 rfl (lv_at hl 0 rfl) ?_
      refine lv_iload_n hx hb dL_law_576 rfl (lv_at hl 3 rfl) ?_
      refine lv_iconst (v := 1) hx hb dL_law_577 (by decide) ?_
      refine lv_iadd hx hb dL_law_578 ?_
      rw [ei1]
      refine va_sld hx hb hX hbl hbA hS hi1 dL_law_579 ?_
      refine lv_aload_n hx hb dL_law_580 rfl (lv_at hl 0 rfl) ?_
      refine lv_iload_n hx hb dL_law_581 rfl (lv_at hl 3 rfl) ?_
      refine lv_iconst (v := 2) hx hb dL_law_582 (by decide) ?_
      refine lv_iadd hx hb dL_law_583 ?_
      rw [ei2]
      refine va_sld hx hb hX hbl hbA hS hi2 dL_law_584 ?_
      refine q_callFMi hM (c_X7_factor l D cI cJ g ad2 _ _ _ _ h2) hP hD hS ky_X7_factor ml_L_89 rfl rfl ⟨(Nat.le_of_ble_eq_true rfl), (Nat.le_of_ble_eq_true rfl)⟩ rfl rfl hl.1 rfl (Nat.le_of_ble_eq_true rfl) ⟨(Nat.le_of_ble_eq_true rfl), (Nat.le_of_ble_eq_true rfl)⟩ dL_law_585 (fun H locs hP hD hS => ?_)
      refine lv_icmp_eq (tgt := 639) hx hb dL_law_588 (by decide) (fun _ => ?_) (fun h => absurd rfl h)
      exact hgo x j2 y hI H locs hP hD hS
    by_cases hc18 : v = 18
    · obtain ⟨r, x2, y2, h1, h2, hI⟩ := hSim.2.2.2.2.2.2.2.2.2.2.2.2.2.2.2.2.2.2.2.1 x j y hI (xs (nI (n0 + 1)).toNatClampNeg)
      refine lv_tableIn (off := 561) (tgt := 593) hx hb dL_law_32 (by rw [hc18]; decide) (by rw [hc18]; decide) (by rw [hc18]; rfl) (by decide) ?_
      refine lv_aload_n hx hb dL_law_593 rfl (lv_at hl 1 rfl) ?_
      refine lv_aload_n hx hb dL_law_594 rfl (lv_at hl 0 rfl) ?_
      refine lv_iload_n hx hb dL_law_595 rfl (lv_at hl 3 rfl) ?_
      refine lv_iconst (v := 1) hx hb dL_law_596 (by decide) ?_
      refine lv_iadd hx hb dL_law_597 ?_
      rw [ei1]
      refine va_sld hx hb hX hbl hbA hS hi1 dL_law_598 ?_
      refine q_callFXi hM (c_X6_drawn l D cI cJ g ad j _ _ _ h1) hP hD hS ky_X6_drawn ml_L_90 rfl rfl ⟨(Nat.le_of_ble_eq_true rfl), (Nat.le_of_ble_eq_true rfl)⟩ rfl rfl hl.1 rfl (Nat.le_of_ble_eq_true rfl) ⟨(Nat.le_of_ble_eq_true rfl), (Nat.le_of_ble_eq_true rfl)⟩ dL_law_599 (fun H locs hP hD hS => ?_)
      refine lv_aload_n hx hb dL_law_602 rfl (lv_at hl 2 rfl) ?_
      refine lv_aload_n hx hb dL_law_603 rfl (lv_at hl 0 rfl) ?_
      refine lv_iload_n hx hb dL_law_604 rfl (lv_at hl 3 rfl) ?_
      refine lv_iconst (v := 1) hx hb dL_law_605 (by decide) ?_
      refine lv_iadd hx hb dL_law_606 ?_
      rw [ei1]
      refine va_sld hx hb hX hbl hbA hS hi1 dL_law_607 ?_
      refine q_callFMi hM (c_X7_drawn l D cI cJ g ad2 _ _ _ h2) hP hD hS ky_X7_drawn ml_L_93 rfl rfl ⟨(Nat.le_of_ble_eq_true rfl), (Nat.le_of_ble_eq_true rfl)⟩ rfl rfl hl.1 rfl (Nat.le_of_ble_eq_true rfl) ⟨(Nat.le_of_ble_eq_true rfl), (Nat.le_of_ble_eq_true rfl)⟩ dL_law_608 (fun H locs hP hD hS => ?_)
      refine lv_icmp_eq (tgt := 639) hx hb dL_law_611 (by decide) (fun _ => ?_) (fun h => absurd rfl h)
      exact hgo x2 j y2 hI H locs hP hD hS
    by_cases hc19 : v = 19
    · obtain ⟨r, x2, y2, h1, h2, hI⟩ := hSim.2.2.2.2.2.2.2.2.2.2.2.2.2.2.2.2.2.2.2.2 x j y hI (xs (nI (n0 + 1)).toNatClampNeg)
      refine lv_tableIn (off := 584) (tgt := 616) hx hb dL_law_32 (by rw [hc19]; decide) (by rw [hc19]; decide) (by rw [hc19]; rfl) (by decide) ?_
      refine lv_aload_n hx hb dL_law_616 rfl (lv_at hl 1 rfl) ?_
      refine lv_aload_n hx hb dL_law_617 rfl (lv_at hl 0 rfl) ?_
      refine lv_iload_n hx hb dL_law_618 rfl (lv_at hl 3 rfl) ?_
      refine lv_iconst (v := 1) hx hb dL_law_619 (by decide) ?_
      refine lv_iadd hx hb dL_law_620 ?_
      rw [ei1]
      refine va_sld hx hb hX hbl hbA hS hi1 dL_law_621 ?_
      refine q_callFXi hM (c_X6_count l D cI cJ g ad j _ _ _ h1) hP hD hS ky_X6_count ml_L_94 rfl rfl ⟨(Nat.le_of_ble_eq_true rfl), (Nat.le_of_ble_eq_true rfl)⟩ rfl rfl hl.1 rfl (Nat.le_of_ble_eq_true rfl) ⟨(Nat.le_of_ble_eq_true rfl), (Nat.le_of_ble_eq_true rfl)⟩ dL_law_622 (fun H locs hP hD hS => ?_)
      refine lv_aload_n hx hb dL_law_625 rfl (lv_at hl 2 rfl) ?_
      refine lv_aload_n hx hb dL_law_626 rfl (lv_at hl 0 rfl) ?_
      refine lv_iload_n hx hb dL_law_627 rfl (lv_at hl 3 rfl) ?_
      refine lv_iconst (v := 1) hx hb dL_law_628 (by decide) ?_
      refine lv_iadd hx hb dL_law_629 ?_
      rw [ei1]
      refine va_sld hx hb hX hbl hbA hS hi1 dL_law_630 ?_
      refine q_callFMi hM (c_X7_count l D cI cJ g ad2 _ _ _ h2) hP hD hS ky_X7_count ml_L_97 rfl rfl ⟨(Nat.le_of_ble_eq_true rfl), (Nat.le_of_ble_eq_true rfl)⟩ rfl rfl hl.1 rfl (Nat.le_of_ble_eq_true rfl) ⟨(Nat.le_of_ble_eq_true rfl), (Nat.le_of_ble_eq_true rfl)⟩ dL_law_631 (fun H locs hP hD hS => ?_)
      refine lv_icmp_eq (tgt := 639) hx hb dL_law_634 (by decide) (fun _ => ?_) (fun h => absurd rfl h)
      exact hgo x2 j y2 hI H locs hP hD hS
    refine lv_tableOut (tgt := 639) hx hb dL_law_32 (by have z0 := q_ne hc0; have z1 := q_ne hc1; have z2 := q_ne hc2; have z3 := q_ne hc3; have z4 := q_ne hc4; have z5 := q_ne hc5; have z6 := q_ne hc6; have z7 := q_ne hc7; have z8 := q_ne hc8; have z9 := q_ne hc9; have z10 := q_ne hc10; have z11 := q_ne hc11; have z12 := q_ne hc12; have z13 := q_ne hc13; have z14 := q_ne hc14; have z15 := q_ne hc15; have z16 := q_ne hc16; have z17 := q_ne hc17; have z18 := q_ne hc18; have z19 := q_ne hc19; have y0 : v.toInt < 0 ∨ 19 < v.toInt := (by rw [show (0 : Int32).toInt = 0 from rfl] at z0; rw [show (1 : Int32).toInt = 1 from rfl] at z1; rw [show (2 : Int32).toInt = 2 from rfl] at z2; rw [show (3 : Int32).toInt = 3 from rfl] at z3; rw [show (4 : Int32).toInt = 4 from rfl] at z4; rw [show (5 : Int32).toInt = 5 from rfl] at z5; rw [show (6 : Int32).toInt = 6 from rfl] at z6; rw [show (7 : Int32).toInt = 7 from rfl] at z7; rw [show (8 : Int32).toInt = 8 from rfl] at z8; rw [show (9 : Int32).toInt = 9 from rfl] at z9; rw [show (10 : Int32).toInt = 10 from rfl] at z10; rw [show (11 : Int32).toInt = 11 from rfl] at z11; rw [show (12 : Int32).toInt = 12 from rfl] at z12; rw [show (13 : Int32).toInt = 13 from rfl] at z13; rw [show (14 : Int32).toInt = 14 from rfl] at z14; rw [show (15 : Int32).toInt = 15 from rfl] at z15; rw [show (16 : Int32).toInt = 16 from rfl] at z16; rw [show (17 : Int32).toInt = 17 from rfl] at z17; rw [show (18 : Int32).toInt = 18 from rfl] at z18; rw [show (19 : Int32).toInt = 19 from rfl] at z19; omega); exact y0) (by decide) ?_
    exact hgo x j y hI H locs hP hD hS
end
