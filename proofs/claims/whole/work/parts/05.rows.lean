section
variable {p : Program} {l : Launch} {e : Env} {R : Room} {s : State} {m : MethodId} {args : Array Value} {below : List Frame} {meth : Method} {c : Code} {cc : ByteArray} {nL : Nat} {own : String} {H : Heap} {locs : List Loc} {cells slots : Nat} {Q : State → Prop} {pc : Nat} {ls : Array Slot} {rest : List Value} {A : Nat → Prop} {D : va_G} {cI cJ : ClassId} {g : Nat → Nat}
theorem q_no {β : Type} {r : β} {P : Prop} (h : (none : Option β) = some r) : P := by cases h
def q_Y (y : MethodName) (cc : ByteArray) (n : Nat) (ret : Option FieldType) (k : Nat) : Prop := Cond.code y cc n ret ∈ lw_big ∧ Cond.instanceMethod y ∈ lw_big ∧ Cond.selects y.cls y y ∈ lw_big ∧ Cond.initialized y.cls ∈ lw_big ∧ y.cls ≠ "java/lang/invoke/MethodHandle" ∧ y.cls ≠ "java/lang/invoke/VarHandle" ∧ (parseMethodDescriptor y.desc).map (fun d => d.parameters.length) = some k
def q_YS (y : MethodName) (cc : ByteArray) (n : Nat) (ret : Option FieldType) (k : Nat) : Prop := Cond.code y cc n ret ∈ lw_big ∧ Cond.static y ∈ lw_big ∧ Cond.initialized y.cls ∈ lw_big ∧ y.cls ≠ "java/lang/invoke/MethodHandle" ∧ y.cls ≠ "java/lang/invoke/VarHandle" ∧ (parseMethodDescriptor y.desc).map (fun d => d.parameters.length) = some k
theorem q_good {y : MethodName} {cc : ByteArray} {n : Nat} {ret : Option FieldType} (h : Cond.code y cc n ret ∈ lw_big) : GoodIn lw_big (q_ws y cc n ret) := fun w hw => (List.mem_cons.mp hw).elim (fun e => e ▸ big_good _ h) (fun h => big_good w h)
theorem q_len_of {y : MethodName} {k : Nat} (h : (parseMethodDescriptor y.desc).map (fun d => d.parameters.length) = some k) : ∀ sig, parseMethodDescriptor y.desc = some sig → k = sig.parameters.length := fun sig hs => by
  rw [hs] at h
  exact (Option.some.inj h).symm
theorem q_cw {y : MethodName} {yc : ByteArray} {yn : Nat} {ret : Option FieldType} {k index : Nat} {rm : Room} (hB : ∀ w ∈ lw_big, w.before args s = true) (hY : q_Y y yc yn ret k) (hlk : Cond.methodLink own index y ∈ lw_big) (hrc : rm.cells = 0) (hrs : rm.slots = 0) (hR : rm.frames + 1 ≤ R.frames ∧ 8 + (yn + 11) + rm.locals ≤ R.locals) : CallW R s args own y.cls index y yc yn ret (q_ws y yc yn ret) rm 0 0 k := by
  obtain ⟨h1, h2, h3, h4, h5, h6, h7⟩ := hY
  exact ⟨callB_of k hB (q_good h1) rfl hrc hrs (hB _ h4) (hB _ hlk) ⟨h5, h6, h7⟩ hR, hB _ h2, hB _ h3⟩
theorem q_cs {y : MethodName} {yc : ByteArray} {yn : Nat} {ret : Option FieldType} {k index : Nat} {rm : Room} (hB : ∀ w ∈ lw_big, w.before args s = true) (hY : q_YS y yc yn ret k) (hlk : Cond.methodLink own index y ∈ lw_big) (hrc : rm.cells = 0) (hrs : rm.slots = 0) (hR : rm.frames + 1 ≤ R.frames ∧ 8 + (yn + 11) + rm.locals ≤ R.locals) : CallB R s args own index y yc yn ret (q_ws y yc yn ret) rm 0 0 k ∧ (Cond.static y).before args s = true := by
  obtain ⟨h1, h2, h4, h5, h6, h7⟩ := hY
  exact ⟨callB_of k hB (q_good h1) rfl hrc hrs (hB _ h4) (hB _ hlk) ⟨h5, h6, h7⟩ hR, hB _ h2⟩
theorem q_blind {w : va_W} {av : List Value} {sz : Nat} : FrameBlind (q_Pre D cI cJ g w av sz) := fun a U gg mk q => by
  obtain ⟨q0, q1, qP, qK, qD, qE⟩ := q
  exact ⟨q0, q1, qP, va_K.moved (u := U) (U := U.calling gg mk a) (Vm.Alike.refl U.vm) qK, qD, qE.same rfl rfl⟩
theorem q_fr {w : va_W} (hM : q_M p m c cc nL s args own D cI cJ A g) (hD : va_D A w) (hS : va_S A s.heap H locs) : ∀ q, va_A w H.size q → A q := by
  rintro q (⟨k, e, h⟩ | h)
  · exact hD.2 k _ h
  · exact hM.2.2.1 q (Nat.le_trans hS.1 h)
theorem q_pre {w : va_W} {av : List Value} (hM : q_M p m c cc nL s args own D cI cJ A g) (hP : va_P D vwCl w H) (hD : va_D A w) (hS : va_S A s.heap H locs) : ∀ U : State, U.heap = H → s.WarmedH U.vm → q_Pre D cI cJ g w av H.size av.toArray U := fun U hU hW =>
  ⟨rfl, by rw [hU], by rw [hU]; exact hP, va_K.moved hW.alike hM.2.1, hD.weaken (fun _ _ _ _ => trivial), hM.2.2.2.to hS (q_fr hM hD hS) hU hW⟩
theorem q_back {w w' : va_W} {H1 : Heap} {t : State} (hM : q_M p m c cc nL s args own D cI cJ A g) (hD : va_D A w) (hS : va_S A s.heap H locs) (ht : t.heap = H1) (hB : q_Wd D cI cJ (va_A w H.size) w' t) : va_P D vwCl w' H1 ∧ va_D A w' := by
  obtain ⟨h1, h2, h3⟩ := hB
  rw [ht] at h1
  exact ⟨h1, h3.weaken (fun _ _ _ h => q_fr hM hD hS _ h)⟩
theorem q_recv {w : va_W} {b k ci : Nat} {fs : List Value} {C : String} {T : u_T} {N : Nat} (hM : q_M p m c cc nL s args own D cI cJ A g) (hP : va_P D vwCl w H) (hk : w[k]? = some (b, .inr (ci, fs))) (hc : vwCl[ci]? = some (C, T, N)) : ∃ cellB : Cell, H[b]? = some cellB ∧ cellB.vm.isStatics = false ∧ s.vm.findClass C = some cellB.cls := va_recv (q := (C, T, N)) hM.2.1 hP hc hk
theorem q_calli {y : MethodName} {yc : ByteArray} {yn n index : Nat} {ty : FieldType} {r : Int32} {rm : Room} {w w' : va_W} {b : Nat} {As st0 : List Value} (hM : q_M p m c cc nL s args own D cI cJ A g) (hC : q_Mi l y yc yn ty rm D cI cJ g w (.ref b :: As) r w') (hP : va_P D vwCl w H) (hD : va_D A w) (hS : va_S A s.heap H locs) (hY : q_Y y yc yn (some ty) n) (hlk : Cond.methodLink own index y ∈ lw_big) (hrc : rm.cells = 0) (hrs : rm.slots = 0) (hR : rm.frames + 1 ≤ R.frames ∧ 8 + (yn + 11) + rm.locals ≤ R.locals) {ci : Nat} {fs : List Value} {T : u_T} {N : Nat} (k0 : Nat) (hk : w[k0]? = some (b, .inr (ci, fs))) (hc : vwCl[ci]? = some (y.cls, T, N)) (hn : As.length = n) (hsz : ls.size = nL) (hst : st0 = As.reverse ++ .ref b :: rest) (hrm : (rest.map fun v => v.category).sum ≤ 8) (hcs : cells ≤ R.cells ∧ slots ≤ R.slots) (hdg : decode cc pc = .ok (.invokevirtual index, 3))
    (kk : ∀ (H1 : Heap) (locs1 : List Loc), narrow ty (.int r) = .int r → va_P D vwCl w' H1 → va_D A w' → va_S A s.heap H1 locs1 → W p l e R s m args below meth c H1 locs1 cells slots Q (F0 m (pc + 3) ls (.int r :: rest))) : W p l e R s m args below meth c H locs cells slots Q (F0 m pc ls st0) := by
  have hfr := q_fr hM hD hS
  refine va_calli (va_runV (As := As) (rest := rest) hM.1 (hC H.size) (q_cw hM.1.2.2.2.2 hY hlk hrc hrs hR) ⟨q_blind, q_recv hM hP hk hc, q_pre hM hP hD hS⟩ rfl hn hsz hst (lv_room hrm) hdg hcs) hS (fun q _ h => hfr q h) hfr (fun r0 u t H1 locs ht hvm hw hB hz1 hk1 hS1 => ?_)
  obtain ⟨hP1, hD1⟩ := q_back hM hD hS ht hB
  obtain ⟨rfl, hz⟩ := hw
  exact kk H1 _ hz hP1 hD1 hS1
theorem q_calliS {y : MethodName} {yc : ByteArray} {yn n index : Nat} {ty : FieldType} {r : Int32} {rm : Room} {w w' : va_W} {As st0 : List Value} (hM : q_M p m c cc nL s args own D cI cJ A g) (hC : q_Mi l y yc yn ty rm D cI cJ g w (As) r w') (hP : va_P D vwCl w H) (hD : va_D A w) (hS : va_S A s.heap H locs) (hY : q_YS y yc yn (some ty) n) (hlk : Cond.methodLink own index y ∈ lw_big) (hrc : rm.cells = 0) (hrs : rm.slots = 0) (hR : rm.frames + 1 ≤ R.frames ∧ 8 + (yn + 11) + rm.locals ≤ R.locals) (hn : As.length = n) (hsz : ls.size = nL) (hst : st0 = As.reverse ++ rest) (hrm : (rest.map fun v => v.category).sum ≤ 8) (hcs : cells ≤ R.cells ∧ slots ≤ R.slots) (hdg : decode cc pc = .ok (.invokestatic index, 3))
    (kk : ∀ (H1 : Heap) (locs1 : List Loc), narrow ty (.int r) = .int r → va_P D vwCl w' H1 → va_D A w' → va_S A s.heap H1 locs1 → W p l e R s m args below meth c H1 locs1 cells slots Q (F0 m (pc + 3) ls (.int r :: rest))) : W p l e R s m args below meth c H locs cells slots Q (F0 m pc ls st0) := by
  have hfr := q_fr hM hD hS
  refine va_calli (va_runS (As := As) (rest := rest) hM.1 (hC H.size) (q_cs hM.1.2.2.2.2 hY hlk hrc hrs hR) ⟨q_blind, q_pre hM hP hD hS⟩ rfl hn hsz hst (lv_room hrm) hdg hcs) hS (fun q _ h => hfr q h) hfr (fun r0 u t H1 locs ht hvm hw hB hz1 hk1 hS1 => ?_)
  obtain ⟨hP1, hD1⟩ := q_back hM hD hS ht hB
  obtain ⟨rfl, hz⟩ := hw
  exact kk H1 _ hz hP1 hD1 hS1
theorem q_calll {y : MethodName} {yc : ByteArray} {yn n index : Nat} {r : Int64} {rm : Room} {w w' : va_W} {b : Nat} {As st0 : List Value} (hM : q_M p m c cc nL s args own D cI cJ A g) (hC : q_Ml l y yc yn rm D cI cJ g w (.ref b :: As) r w') (hP : va_P D vwCl w H) (hD : va_D A w) (hS : va_S A s.heap H locs) (hY : q_Y y yc yn (some .long) n) (hlk : Cond.methodLink own index y ∈ lw_big) (hrc : rm.cells = 0) (hrs : rm.slots = 0) (hR : rm.frames + 1 ≤ R.frames ∧ 8 + (yn + 11) + rm.locals ≤ R.locals) {ci : Nat} {fs : List Value} {T : u_T} {N : Nat} (k0 : Nat) (hk : w[k0]? = some (b, .inr (ci, fs))) (hc : vwCl[ci]? = some (y.cls, T, N)) (hn : As.length = n) (hsz : ls.size = nL) (hst : st0 = As.reverse ++ .ref b :: rest) (hrm : (rest.map fun v => v.category).sum ≤ 8) (hcs : cells ≤ R.cells ∧ slots ≤ R.slots) (hdg : decode cc pc = .ok (.invokevirtual index, 3))
    (kk : ∀ (H1 : Heap) (locs1 : List Loc), va_P D vwCl w' H1 → va_D A w' → va_S A s.heap H1 locs1 → W p l e R s m args below meth c H1 locs1 cells slots Q (F0 m (pc + 3) ls (.long r :: rest))) : W p l e R s m args below meth c H locs cells slots Q (F0 m pc ls st0) := by
  have hfr := q_fr hM hD hS
  refine va_calll (va_runV (As := As) (rest := rest) hM.1 (hC H.size) (q_cw hM.1.2.2.2.2 hY hlk hrc hrs hR) ⟨q_blind, q_recv hM hP hk hc, q_pre hM hP hD hS⟩ rfl hn hsz hst (lv_room hrm) hdg hcs) hS (fun q _ h => hfr q h) hfr (fun r0 u t H1 locs ht hvm hw hB hz1 hk1 hS1 => ?_)
  obtain ⟨hP1, hD1⟩ := q_back hM hD hS ht hB
  obtain rfl := hw
  exact kk H1 _ hP1 hD1 hS1
theorem q_calllS {y : MethodName} {yc : ByteArray} {yn n index : Nat} {r : Int64} {rm : Room} {w w' : va_W} {As st0 : List Value} (hM : q_M p m c cc nL s args own D cI cJ A g) (hC : q_Ml l y yc yn rm D cI cJ g w (As) r w') (hP : va_P D vwCl w H) (hD : va_D A w) (hS : va_S A s.heap H locs) (hY : q_YS y yc yn (some .long) n) (hlk : Cond.methodLink own index y ∈ lw_big) (hrc : rm.cells = 0) (hrs : rm.slots = 0) (hR : rm.frames + 1 ≤ R.frames ∧ 8 + (yn + 11) + rm.locals ≤ R.locals) (hn : As.length = n) (hsz : ls.size = nL) (hst : st0 = As.reverse ++ rest) (hrm : (rest.map fun v => v.category).sum ≤ 8) (hcs : cells ≤ R.cells ∧ slots ≤ R.slots) (hdg : decode cc pc = .ok (.invokestatic index, 3))
    (kk : ∀ (H1 : Heap) (locs1 : List Loc), va_P D vwCl w' H1 → va_D A w' → va_S A s.heap H1 locs1 → W p l e R s m args below meth c H1 locs1 cells slots Q (F0 m (pc + 3) ls (.long r :: rest))) : W p l e R s m args below meth c H locs cells slots Q (F0 m pc ls st0) := by
  have hfr := q_fr hM hD hS
  refine va_calll (va_runS (As := As) (rest := rest) hM.1 (hC H.size) (q_cs hM.1.2.2.2.2 hY hlk hrc hrs hR) ⟨q_blind, q_pre hM hP hD hS⟩ rfl hn hsz hst (lv_room hrm) hdg hcs) hS (fun q _ h => hfr q h) hfr (fun r0 u t H1 locs ht hvm hw hB hz1 hk1 hS1 => ?_)
  obtain ⟨hP1, hD1⟩ := q_back hM hD hS ht hB
  obtain rfl := hw
  exact kk H1 _ hP1 hD1 hS1
theorem q_callv {y : MethodName} {yc : ByteArray} {yn n index : Nat}  {rm : Room} {w w' : va_W} {b : Nat} {As st0 : List Value} (hM : q_M p m c cc nL s args own D cI cJ A g) (hC : q_Mv l y yc yn rm D cI cJ g w (.ref b :: As) w') (hP : va_P D vwCl w H) (hD : va_D A w) (hS : va_S A s.heap H locs) (hY : q_Y y yc yn none n) (hlk : Cond.methodLink own index y ∈ lw_big) (hrc : rm.cells = 0) (hrs : rm.slots = 0) (hR : rm.frames + 1 ≤ R.frames ∧ 8 + (yn + 11) + rm.locals ≤ R.locals) {ci : Nat} {fs : List Value} {T : u_T} {N : Nat} (k0 : Nat) (hk : w[k0]? = some (b, .inr (ci, fs))) (hc : vwCl[ci]? = some (y.cls, T, N)) (hn : As.length = n) (hsz : ls.size = nL) (hst : st0 = As.reverse ++ .ref b :: rest) (hrm : (rest.map fun v => v.category).sum ≤ 8) (hcs : cells ≤ R.cells ∧ slots ≤ R.slots) (hdg : decode cc pc = .ok (.invokevirtual index, 3))
    (kk : ∀ (H1 : Heap) (locs1 : List Loc), va_P D vwCl w' H1 → va_D A w' → va_S A s.heap H1 locs1 → W p l e R s m args below meth c H1 locs1 cells slots Q (F0 m (pc + 3) ls (rest))) : W p l e R s m args below meth c H locs cells slots Q (F0 m pc ls st0) := by
  have hfr := q_fr hM hD hS
  refine va_callv (va_runV (As := As) (rest := rest) hM.1 (hC H.size) (q_cw hM.1.2.2.2.2 hY hlk hrc hrs hR) ⟨q_blind, q_recv hM hP hk hc, q_pre hM hP hD hS⟩ rfl hn hsz hst (lv_room hrm) hdg hcs) hS (fun q _ h => hfr q h) hfr (fun u t H1 locs ht hvm hw hB hz1 hk1 hS1 => ?_)
  obtain ⟨hP1, hD1⟩ := q_back hM hD hS ht hB
  exact kk H1 _ hP1 hD1 hS1
theorem q_callvS {y : MethodName} {yc : ByteArray} {yn n index : Nat}  {rm : Room} {w w' : va_W} {As st0 : List Value} (hM : q_M p m c cc nL s args own D cI cJ A g) (hC : q_Mv l y yc yn rm D cI cJ g w (As) w') (hP : va_P D vwCl w H) (hD : va_D A w) (hS : va_S A s.heap H locs) (hY : q_YS y yc yn none n) (hlk : Cond.methodLink own index y ∈ lw_big) (hrc : rm.cells = 0) (hrs : rm.slots = 0) (hR : rm.frames + 1 ≤ R.frames ∧ 8 + (yn + 11) + rm.locals ≤ R.locals) (hn : As.length = n) (hsz : ls.size = nL) (hst : st0 = As.reverse ++ rest) (hrm : (rest.map fun v => v.category).sum ≤ 8) (hcs : cells ≤ R.cells ∧ slots ≤ R.slots) (hdg : decode cc pc = .ok (.invokestatic index, 3))
    (kk : ∀ (H1 : Heap) (locs1 : List Loc), va_P D vwCl w' H1 → va_D A w' → va_S A s.heap H1 locs1 → W p l e R s m args below meth c H1 locs1 cells slots Q (F0 m (pc + 3) ls (rest))) : W p l e R s m args below meth c H locs cells slots Q (F0 m pc ls st0) := by
  have hfr := q_fr hM hD hS
  refine va_callv (va_runS (As := As) (rest := rest) hM.1 (hC H.size) (q_cs hM.1.2.2.2.2 hY hlk hrc hrs hR) ⟨q_blind, q_pre hM hP hD hS⟩ rfl hn hsz hst (lv_room hrm) hdg hcs) hS (fun q _ h => hfr q h) hfr (fun u t H1 locs ht hvm hw hB hz1 hk1 hS1 => ?_)
  obtain ⟨hP1, hD1⟩ := q_back hM hD hS ht hB
  exact kk H1 _ hP1 hD1 hS1
theorem q_calliSN {y : MethodName} {yc : ByteArray} {yn n index : Nat} {ty : FieldType} {r : Int32} {rm : Room} {w w' : va_W} {As st0 : List Value} {host : String} (hM : q_M p m c cc nL s args own D cI cJ A g) (hC : q_Mi l y yc yn ty rm D cI cJ g w (As) r w') (hP : va_P D vwCl w H) (hD : va_D A w) (hS : va_S A s.heap H locs) (hY : q_YS y yc yn (some ty) n) (hlk : va_Nw (.methodLinkNest own index y host) s) (hrc : rm.cells = 0) (hrs : rm.slots = 0) (hR : rm.frames + 1 ≤ R.frames ∧ 8 + (yn + 11) + rm.locals ≤ R.locals) (hn : As.length = n) (hsz : ls.size = nL) (hst : st0 = As.reverse ++ rest) (hrm : (rest.map fun v => v.category).sum ≤ 8) (hcs : cells ≤ R.cells ∧ slots ≤ R.slots) (hdg : decode cc pc = .ok (.invokestatic index, 3))
    (kk : ∀ (H1 : Heap) (locs1 : List Loc), narrow ty (.int r) = .int r → va_P D vwCl w' H1 → va_D A w' → va_S A s.heap H1 locs1 → W p l e R s m args below meth c H1 locs1 cells slots Q (F0 m (pc + 3) ls (.int r :: rest))) : W p l e R s m args below meth c H locs cells slots Q (F0 m pc ls st0) := by
  have hfr := q_fr hM hD hS
  have hB := hM.1.2.2.2.2
  obtain ⟨h1, h2, h4, h5, h6, h7⟩ := hY
  refine va_calli (va_runSN (As := As) (rest := rest) hM.1 (hC H.size) ⟨va_cnB n hB (q_good h1) rfl hrc hrs hlk (hB _ h4) ⟨h5, h6, h7⟩ hR, hB _ h2, trivial⟩ ⟨q_blind, q_pre hM hP hD hS⟩ rfl hn hsz hst (lv_room hrm) hdg hcs) hS (fun q _ h => hfr q h) hfr (fun r0 u t H1 locs ht hvm hw hB hz1 hk1 hS1 => ?_)
  obtain ⟨hP1, hD1⟩ := q_back hM hD hS ht hB
  obtain ⟨rfl, hz⟩ := hw
  exact kk H1 _ hz hP1 hD1 hS1
theorem q_calliT {y : MethodName} {yc : ByteArray} {yn n index : Nat} {ty : FieldType} {r : Int32} {rm : Room} {w w' : va_W} {wi : Nat} {As st0 : List Value} (hM : q_M p m c cc nL s args own D cI cJ A g) (hC : q_Mi l y yc yn ty rm D cI cJ g w (.ref (g (10 + wi)) :: As) r w') (hP : va_P D vwCl w H) (hD : va_D A w) (hS : va_S A s.heap H locs) (hY : q_Y y yc yn (some ty) n) (hyc : y.cls = "java/lang/String") (hwi : wi < 7) (hlk : Cond.methodLink own index y ∈ lw_big) (hrc : rm.cells = 0) (hrs : rm.slots = 0) (hR : rm.frames + 1 ≤ R.frames ∧ 8 + (yn + 11) + rm.locals ≤ R.locals) (hn : As.length = n) (hsz : ls.size = nL) (hst : st0 = As.reverse ++ .ref (g (10 + wi)) :: rest) (hrm : (rest.map fun v => v.category).sum ≤ 8) (hcs : cells ≤ R.cells ∧ slots ≤ R.slots) (hdg : decode cc pc = .ok (.invokevirtual index, 3))
    (kk : ∀ (H1 : Heap) (locs1 : List Loc), narrow ty (.int r) = .int r → va_P D vwCl w' H1 → va_D A w' → va_S A s.heap H1 locs1 → W p l e R s m args below meth c H1 locs1 cells slots Q (F0 m (pc + 3) ls (.int r :: rest))) : W p l e R s m args below meth c H locs cells slots Q (F0 m pc ls st0) := by
  have hfr := q_fr hM hD hS
  have hrec := vk_recv (i := wi) hM.2.2.2.2.2.2.2.2.2.2.2.2 hwi hS
  refine va_calli (va_runV (As := As) (rest := rest) hM.1 (hC H.size) (q_cw hM.1.2.2.2.2 hY hlk hrc hrs hR) ⟨q_blind, by rw [hyc]; exact hrec, q_pre hM hP hD hS⟩ rfl hn hsz hst (lv_room hrm) hdg hcs) hS (fun q _ h => hfr q h) hfr (fun r0 u t H1 locs ht hvm hw hB hz1 hk1 hS1 => ?_)
  obtain ⟨hP1, hD1⟩ := q_back hM hD hS ht hB
  obtain ⟨rfl, hz⟩ := hw
  exact kk H1 _ hz hP1 hD1 hS1
end
