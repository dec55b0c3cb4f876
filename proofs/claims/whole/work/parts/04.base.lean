section
/-! the state of a side: its int cells by number, its long cells by number; and the words that the pure texts are made of -/
abbrev IS : Type := Nat → Nat → Int32
abbrev JS : Type := Nat → Nat → Int64
def q_up (x : IS) (c : Nat) (f : Nat → Int32) : IS := fun b => if b = c then f else x b
def q_upJ (x : JS) (c : Nat) (f : Nat → Int64) : JS := fun b => if b = c then f else x b
def q_let {α β : Type} (v : α) (k : α → β) : β := k v
def q_jn {α β : Type} (k : α) (b : α → β) : β := b k
def q_gd {β : Type} (c : Prop) [Decidable c] (e : Option β) : Option β := if c then e else none
def q_b1 {α β : Type} (o : Option α) (k : α → Option β) : Option β := match o with
  | none => none
  | some a => k a
def q_b2 {α γ β : Type} (o : Option (α × γ)) (k : α → γ → Option β) : Option β := match o with
  | none => none
  | some a => k a.1 a.2
def q_b3 {α γ δ β : Type} (o : Option (α × γ × δ)) (k : α → γ → δ → Option β) : Option β := match o with
  | none => none
  | some a => k a.1 a.2.1 a.2.2
abbrev q_in (i : Int32) (n : Nat) : Prop := ¬ i < 0 ∧ i.toNatClampNeg < n
theorem q_let_e {α β : Type} {v c : α} {k : α → Option β} {r : β} (h : q_let v k = some r) (e : c = v) : k c = some r := by subst e; exact h
theorem q_jn_e {α β : Type} {k : α} {b : α → Option β} {r : β} (h : q_jn k b = some r) : ∃ j, j = k ∧ b j = some r := ⟨k, rfl, h⟩
theorem q_gd_e {β : Type} {c : Prop} [Decidable c] {e : Option β} {r : β} (h : q_gd c e = some r) : c ∧ e = some r := by
  unfold q_gd at h
  split at h
  · exact ⟨‹_›, h⟩
  · cases h
theorem q_b1_e {α β : Type} {o : Option α} {k : α → Option β} {r : β} (h : q_b1 o k = some r) : ∃ a, o = some a ∧ k a = some r := by
  cases o with
  | none => cases h
  | some a => exact ⟨a, rfl, h⟩
theorem q_b2_e {α γ β : Type} {o : Option (α × γ)} {k : α → γ → Option β} {r : β} (h : q_b2 o k = some r) : ∃ a b, o = some (a, b) ∧ k a b = some r := by
  cases o with
  | none => cases h
  | some a => exact ⟨a.1, a.2, rfl, h⟩
theorem q_b3_e {α γ δ β : Type} {o : Option (α × γ × δ)} {k : α → γ → δ → Option β} {r : β} (h : q_b3 o k = some r) : ∃ a b c, o = some (a, b, c) ∧ k a b c = some r := by
  cases o with
  | none => cases h
  | some a => exact ⟨a.1, a.2.1, a.2.2, rfl, h⟩
theorem q_it {β : Type} {c : Prop} [Decidable c] {a b : Option β} {r : β} (h : (if c then a else b) = some r) (hc : c) : a = some r := by rw [if_pos hc] at h; exact h
theorem q_ie {β : Type} {c : Prop} [Decidable c] {a b : Option β} {r : β} (h : (if c then a else b) = some r) (hc : ¬ c) : b = some r := by rw [if_neg hc] at h; exact h
theorem q_vp {i : Int32} {n : Nat} (h : q_in i n) : vp_in i n := fun q => q.elim h.1 (fun q => absurd h.2 (Nat.not_lt.mpr q))
theorem q_ne {v k : Int32} (h : ¬ v = k) : v.toInt ≠ k.toInt := fun e => h (Int32.toInt_inj.mp e)
end
section
/-! what is read of the start and stays: links to nest mates, String constants, static rows -/
def q_LW (k : Nat) : Int32 := [3, 1, 4, 2, 1].getD k 0
def q_DW (k : Nat) : Int32 := [4, 2, 1, 1, 0, 0, 0, 0].getD k 0
def q_FC (k : Nat) : Int32 := [3, 1, 4, 1, 5, 40, 6, 2, 3, 1, 9, 7, 50, 48, 5, 3, 2, 1, 6, 20].getD k 0
def q_LL (k : Nat) : Int32 := [1, 0, 1, 1, 1].getD k 0
def q_LM (k : Nat) : Int32 := [6, 3, 12, 40, 40].getD k 0
def q_len : List Nat := [5, 5, 5, 5, 4, 4, 4]
def q_byt : List (List Int32) := [[109, 111, 100, 101, 32], [99, 101, 108, 108, 32], [108, 111, 111, 107, 32], [100, 105, 99, 101, 32], [98, 111, 116, 104], [109, 111, 114, 101], [108, 101, 115, 115]]
def q_N (U : State) : Prop :=
  va_Nw (.methodLinkNest RX3 60 yX6_isLook RX6) U ∧ va_Nw (.methodLinkNest RX5 40 yX6_isLook RX6) U ∧
  va_Nw (.fieldLinkNest RX3 18 "RankedEchoes" "LOOK_WITHOUT" "[I" RX6) U ∧ va_Nw (.fieldLinkNest RX5 15 "RankedEchoes" "LOOK_WITHOUT" "[I" RX6) U ∧ va_Nw (.fieldLinkNest RX5 37 "RankedEchoes" "DICE_WITHOUT" "[I" RX6) U ∧
  va_Nw (.methodLinkNest RX6 9 yX4_init RX6) U ∧ va_Nw (.methodLinkNest RX6 18 yX5_init RX6) U ∧ va_Nw (.methodLinkNest RX6 25 yX3_init RX6) U ∧ va_Nw (.methodLinkNest RX6 32 yX0_init RX6) U ∧ va_Nw (.methodLinkNest RX6 39 yX1_init RX6) U ∧ va_Nw (.methodLinkNest RX6 46 yX2_init RX6) U
def q_T (g : Nat → Nat) (U : State) : Prop := vk_R RX4 35 "mode " (g 10) U ∧ vk_R RX4 44 "cell " (g 11) U ∧ vk_R RX4 54 "look " (g 12) U ∧ vk_R RX4 59 "dice " (g 13) U ∧ vk_R RX4 64 "both" (g 14) U ∧ vk_R RX4 69 "more" (g 15) U ∧ vk_R RX4 71 "less" (g 16) U
def q_Z1 (n : String) (t N : Nat) (f : Nat → Int32) (A : Nat → Prop) (U : State) (H : Heap) : Prop := va_Z "RankedEchoes" n "[I" (.ref t) A U H ∧ va_T .int t N (fun j => .int (f j)) A U H
def q_Z (g : Nat → Nat) (A : Nat → Prop) (U : State) (H : Heap) : Prop :=
  q_Z1 "LOOK_WITHOUT" (g 0) 5 q_LW A U H ∧ q_Z1 "DICE_WITHOUT" (g 1) 8 q_DW A U H ∧ q_Z1 "FIRST_CELLS" (g 2) 20 q_FC A U H ∧ q_Z1 "LOOK_LEAST" (g 3) 5 q_LL A U H ∧ q_Z1 "LOOK_MOST" (g 4) 5 q_LM A U H ∧
  va_Z "java/lang/String" "COMPACT_STRINGS" "Z" (.int 1) A U H ∧ va_Zq "jdk/internal/util/Preconditions" "SIOOBE_FORMATTER" "Ljava/util/function/BiFunction;" A U H ∧
  vk_S 7 q_len q_byt (fun i => g (10 + i)) (fun i => g (20 + i)) A U H
def q_E (g : Nat → Nat) (A : Nat → Prop) (U : State) (H : Heap) : Prop := q_N U ∧ q_T g U ∧ q_Z g A U H
theorem q_N.warm {s U : State} (hW : s.WarmedH U.vm) (h : q_N s) : q_N U := by
  obtain ⟨a, b, c, d, e, f, g, h, i, j, k⟩ := h
  exact ⟨a.warmM hW, b.warmM hW, c.warmF hW, d.warmF hW, e.warmF hW, f.warmM hW, g.warmM hW, h.warmM hW, i.warmM hW, j.warmM hW, k.warmM hW⟩
theorem q_N.same {s U : State} (hv : s.vm = U.vm) (h : q_N s) : q_N U := by
  obtain ⟨a, b, c, d, e, f, g, h, i, j, k⟩ := h
  exact ⟨a.same rfl hv, b.same rfl hv, c.same rfl hv, d.same rfl hv, e.same rfl hv, f.same rfl hv, g.same rfl hv, h.same rfl hv, i.same rfl hv, j.same rfl hv, k.same rfl hv⟩
theorem q_T.warm {g : Nat → Nat} {s U : State} (hW : s.WarmedH U.vm) (h : q_T g s) : q_T g U := by
  obtain ⟨a, b, c, d, e, f, i⟩ := h
  exact ⟨a.warm hW, b.warm hW, c.warm hW, d.warm hW, e.warm hW, f.warm hW, i.warm hW⟩
theorem q_T.same {g : Nat → Nat} {s U : State} (hv : s.vm = U.vm) (h : q_T g s) : q_T g U := by
  obtain ⟨a, b, c, d, e, f, i⟩ := h
  exact ⟨a.same hv.symm, b.same hv.symm, c.same hv.symm, d.same hv.symm, e.same hv.symm, f.same hv.symm, i.same hv.symm⟩
theorem q_Z1.to {n : String} {t N : Nat} {f : Nat → Int32} {A B : Nat → Prop} {u U : State} {H H1 : Heap} (h : q_Z1 n t N f A u H) (hvm : u.vm.Alike U.vm) (hq : ∀ a : Nat, a < H.size → ¬ A a → H1[a]? = H[a]?) (hAB : ∀ q, B q → A q) : q_Z1 n t N f B U H1 :=
  ⟨((h.1.kept hq).narrow hAB).moved hvm, ((h.2.kept hq).narrow hAB).moved hvm⟩
theorem q_Z.to {g : Nat → Nat} {A B : Nat → Prop} {u U : State} {H H1 : Heap} (h : q_Z g A u H) (hvm : u.vm.Alike U.vm) (hq : ∀ a : Nat, a < H.size → ¬ A a → H1[a]? = H[a]?) (hAB : ∀ q, B q → A q) : q_Z g B U H1 := by
  obtain ⟨a, b, c, d, e, f, i, j⟩ := h
  refine ⟨a.to hvm hq hAB, b.to hvm hq hAB, c.to hvm hq hAB, d.to hvm hq hAB, e.to hvm hq hAB, ((f.kept hq).narrow hAB).moved hvm, ?_, ((j.kept hq).narrow hAB).moved hvm⟩
  rcases i with i | ⟨t, i⟩
  · exact Or.inl (((i.kept hq).narrow hAB).moved hvm)
  · exact Or.inr ⟨t, ((i.kept hq).narrow hAB).moved hvm⟩
theorem q_E.to {g : Nat → Nat} {A B : Nat → Prop} {s U : State} {H : Heap} {locs : List Loc} (h : q_E g A s s.heap) (hS : va_S A s.heap H locs) (hAB : ∀ q, B q → A q) (hU : U.heap = H) (hW : s.WarmedH U.vm) : q_E g B U U.heap := by
  rw [hU]
  exact ⟨h.1.warm hW, h.2.1.warm hW, h.2.2.to hW.alike hS.2.1 hAB⟩
theorem q_E.same {g : Nat → Nat} {A : Nat → Prop} {s U : State} (h : q_E g A s s.heap) (hv : s.vm = U.vm) (hh : U.heap = s.heap) : q_E g A U U.heap := by
  rw [hh]
  exact ⟨h.1.same hv, h.2.1.same hv, h.2.2.to (by rw [hv]; exact Vm.Alike.refl U.vm) (fun _ _ _ => rfl) (fun _ h => h)⟩
end
section
variable {p : Program} {l : Launch} {e : Env} {R : Room} {s : State} {m : MethodId} {args : Array Value} {below : List Frame} {meth : Method} {c : Code} {cc : ByteArray} {nL : Nat} {own : String} {H : Heap} {locs : List Loc} {cells slots : Nat} {Q : State → Prop} {pc : Nat} {ls : Array Slot} {rest : List Value} {A : Nat → Prop} {D : va_G} {cI cJ : ClassId} {g : Nat → Nat}
/-! contracts over whole worlds, and the rows of calls -/
abbrev q_ty (cI cJ : ClassId) : List (ClassId × FieldType) := [(cI, .int), (cJ, .long)]
def q_M (p : Program) (m : MethodId) (c : Code) (cc : ByteArray) (nL : Nat) (s : State) (args : Array Value) (own : String) (D : va_G) (cI cJ : ClassId) (A : Nat → Prop) (g : Nat → Nat) : Prop :=
  CallFix p m c cc nL s args lw_big own ∧ va_K D vwCl (q_ty cI cJ) s ∧ (∀ q, s.heap.size ≤ q → A q) ∧ q_E g A s s.heap
def q_Pre (D : va_G) (cI cJ : ClassId) (g : Nat → Nat) (w : va_W) (av : List Value) (sz : Nat) : Array Value → State → Prop :=
  va_Pc av (fun U => U.heap.size = sz ∧ va_P D vwCl w U.heap ∧ va_K D vwCl (q_ty cI cJ) U ∧ va_D (fun _ => True) w ∧ q_E g (va_A w sz) U U.heap)
def q_Wd (D : va_G) (cI cJ : ClassId) (A : Nat → Prop) (w : va_W) (t : State) : Prop := va_P D vwCl w t.heap ∧ va_K D vwCl (q_ty cI cJ) t ∧ va_D A w
def q_ws (y : MethodName) (cc : ByteArray) (n : Nat) (ret : Option FieldType) : List Cond := Cond.code y cc n ret :: lw_big
def q_Mi (l : Launch) (y : MethodName) (cc : ByteArray) (n : Nat) (ty : FieldType) (rm : Room) (D : va_G) (cI cJ : ClassId) (g : Nat → Nat) (w : va_W) (av : List Value) (r : Int32) (w' : va_W) : Prop :=
  ∀ sz, Met l y (q_ws y cc n (some ty)) rm (q_Pre D cI cJ g w av sz) (va_Qi (fun r2 (_ : Unit) => r2 = r ∧ narrow ty (.int r) = .int r) (fun _ t => q_Wd D cI cJ (va_A w sz) w' t) (va_A w sz)) 0 0 (va_A w sz)
def q_Ml (l : Launch) (y : MethodName) (cc : ByteArray) (n : Nat) (rm : Room) (D : va_G) (cI cJ : ClassId) (g : Nat → Nat) (w : va_W) (av : List Value) (r : Int64) (w' : va_W) : Prop :=
  ∀ sz, Met l y (q_ws y cc n (some .long)) rm (q_Pre D cI cJ g w av sz) (va_Ql (fun r2 (_ : Unit) => r2 = r) (fun _ t => q_Wd D cI cJ (va_A w sz) w' t) (va_A w sz)) 0 0 (va_A w sz)
def q_Mv (l : Launch) (y : MethodName) (cc : ByteArray) (n : Nat) (rm : Room) (D : va_G) (cI cJ : ClassId) (g : Nat → Nat) (w : va_W) (av : List Value) (w' : va_W) : Prop :=
  ∀ sz, Met l y (q_ws y cc n none) rm (q_Pre D cI cJ g w av sz) (va_Qv (fun (_ : Unit) => True) (fun _ t => q_Wd D cI cJ (va_A w sz) w' t) (va_A w sz)) 0 0 (va_A w sz)
theorem q_ofi {y : MethodName} {maxL : Nat} {ty : FieldType} {rm : Room} {w : va_W} {av : List Value} {ρ : Type} {res : ρ} (rv : ρ → Int32) (rw : ρ → va_W) (hy : plainName y.cls = true) (hlen : (lg_sl av).length ≤ maxL)
    (body : ∀ (p : Program) (e : Env) (s : State) (m : MethodId) (args : Array Value) (below : List Frame) (meth : Method) (c : Code) (A : Nat → Prop) (Q : State → Prop), q_M p m c cc maxL s args y.cls D cI cJ A g →
      (∀ (u : ρ) (pc : Nat) (H : Heap) (locs : List Loc) (ls : Array Slot), some u = some res → narrow ty (.int (rv u)) = .int (rv u) → decode cc pc = .ok (.ireturn, 1) → va_P D vwCl (rw u) H → va_D A (rw u) → va_S A s.heap H locs → W p l e rm s m args below meth c H locs 0 0 Q (F0 m pc ls [.int (rv u)])) →
      ∀ ls : Array Slot, lv_has ls maxL (lv_args 0 av) → va_P D vwCl w s.heap → va_D A w → va_S A s.heap s.heap [] → W p l e rm s m args below meth c s.heap [] 0 0 Q (F0 m 0 ls [])) :
    q_Mi l y cc maxL ty rm D cI cJ g w av (rv res) (rw res) := by
  intro sz
  refine Met.ofW (cc := cc) (maxL := maxL) (ret := some ty) hy rfl ?_
  intro p e s m args below meth c s₁ B hml hv
  obtain ⟨rfl, rfl, hP, hK, hD0, hE⟩ := hv
  have hts := atoms_spec (ws := q_ws y cc maxL (some ty)) B.pre
  have hB : ∀ w ∈ lw_big, w.before av.toArray s = true := fun w h => hts w (List.mem_cons_of_mem _ h)
  have hown : s.vm.findClass y.cls = some m.cls := findClass_of_methodNamed B.named
  have hlocks := B.notSynchronized
  have hD := hD0.self (sz := s.heap.size)
  have hl := lv_entry av hlen
  rw [lg_entry_eq]
  refine body p e s m av.toArray below meth c (va_A w s.heap.size) _ ⟨⟨B.exec, B.bytes, hml, hown, hB⟩, hK, fun q h => Or.inr h, hE⟩ ?_ _ hl hP hD va_S.rf
  intro u pc H locs ls hu hn hd hP hD hS
  obtain rfl := Option.some.inj hu
  exact W.zret B.exec B.bytes B.returns hn (fun t ht hW => ⟨⟨rv u, (), rfl, ⟨rfl, hn⟩, by rw [ht]; exact hP, va_K.moved hW.alike hK, hD⟩, hS.F ht⟩) hS.2.2 hd
theorem q_ofl {y : MethodName} {maxL : Nat} {rm : Room} {w : va_W} {av : List Value} {ρ : Type} {res : ρ} (rv : ρ → Int64) (rw : ρ → va_W) (hy : plainName y.cls = true) (hlen : (lg_sl av).length ≤ maxL)
    (body : ∀ (p : Program) (e : Env) (s : State) (m : MethodId) (args : Array Value) (below : List Frame) (meth : Method) (c : Code) (A : Nat → Prop) (Q : State → Prop), q_M p m c cc maxL s args y.cls D cI cJ A g →
      (∀ (u : ρ) (pc : Nat) (H : Heap) (locs : List Loc) (ls : Array Slot), some u = some res → decode cc pc = .ok (.lreturn, 1) → va_P D vwCl (rw u) H → va_D A (rw u) → va_S A s.heap H locs → W p l e rm s m args below meth c H locs 0 0 Q (F0 m pc ls [.long (rv u)])) →
      ∀ ls : Array Slot, lv_has ls maxL (lv_args 0 av) → va_P D vwCl w s.heap → va_D A w → va_S A s.heap s.heap [] → W p l e rm s m args below meth c s.heap [] 0 0 Q (F0 m 0 ls [])) :
    q_Ml l y cc maxL rm D cI cJ g w av (rv res) (rw res) := by
  intro sz
  refine Met.ofW (cc := cc) (maxL := maxL) (ret := some .long) hy rfl ?_
  intro p e s m args below meth c s₁ B hml hv
  obtain ⟨rfl, rfl, hP, hK, hD0, hE⟩ := hv
  have hts := atoms_spec (ws := q_ws y cc maxL (some .long)) B.pre
  have hB : ∀ w ∈ lw_big, w.before av.toArray s = true := fun w h => hts w (List.mem_cons_of_mem _ h)
  have hown : s.vm.findClass y.cls = some m.cls := findClass_of_methodNamed B.named
  have hlocks := B.notSynchronized
  have hD := hD0.self (sz := s.heap.size)
  have hl := lv_entry av hlen
  rw [lg_entry_eq]
  refine body p e s m av.toArray below meth c (va_A w s.heap.size) _ ⟨⟨B.exec, B.bytes, hml, hown, hB⟩, hK, fun q h => Or.inr h, hE⟩ ?_ _ hl hP hD va_S.rf
  intro u pc H locs ls hu hd hP hD hS
  obtain rfl := Option.some.inj hu
  exact W.lret B.exec B.bytes B.returns (fun t ht hW => ⟨⟨rv u, (), rfl, rfl, by rw [ht]; exact hP, va_K.moved hW.alike hK, hD⟩, hS.F ht⟩) hS.2.2 hd
theorem q_ofv {y : MethodName} {maxL : Nat} {rm : Room} {w : va_W} {av : List Value} {ρ : Type} {res : ρ} (rw : ρ → va_W) (hy : plainName y.cls = true) (hlen : (lg_sl av).length ≤ maxL)
    (body : ∀ (p : Program) (e : Env) (s : State) (m : MethodId) (args : Array Value) (below : List Frame) (meth : Method) (c : Code) (A : Nat → Prop) (Q : State → Prop), q_M p m c cc maxL s args y.cls D cI cJ A g →
      (∀ (u : ρ) (pc : Nat) (H : Heap) (locs : List Loc) (ls : Array Slot), some u = some res → decode cc pc = .ok (.return_, 1) → va_P D vwCl (rw u) H → va_D A (rw u) → va_S A s.heap H locs → W p l e rm s m args below meth c H locs 0 0 Q (F0 m pc ls [])) →
      ∀ ls : Array Slot, lv_has ls maxL (lv_args 0 av) → va_P D vwCl w s.heap → va_D A w → va_S A s.heap s.heap [] → W p l e rm s m args below meth c s.heap [] 0 0 Q (F0 m 0 ls [])) :
    q_Mv l y cc maxL rm D cI cJ g w av (rw res) := by
  intro sz
  refine Met.ofW (cc := cc) (maxL := maxL) (ret := none) hy rfl ?_
  intro p e s m args below meth c s₁ B hml hv
  obtain ⟨rfl, rfl, hP, hK, hD0, hE⟩ := hv
  have hts := atoms_spec (ws := q_ws y cc maxL none) B.pre
  have hB : ∀ w ∈ lw_big, w.before av.toArray s = true := fun w h => hts w (List.mem_cons_of_mem _ h)
  have hown : s.vm.findClass y.cls = some m.cls := findClass_of_methodNamed B.named
  have hlocks := B.notSynchronized
  have hD := hD0.self (sz := s.heap.size)
  have hl := lv_entry av hlen
  rw [lg_entry_eq]
  refine body p e s m av.toArray below meth c (va_A w s.heap.size) _ ⟨⟨B.exec, B.bytes, hml, hown, hB⟩, hK, fun q h => Or.inr h, hE⟩ ?_ _ hl hP hD va_S.rf
  intro u pc H locs ls hu hd hP hD hS
  obtain rfl := Option.some.inj hu
  exact W.vret B.exec B.bytes B.returns (fun t ht hW => ⟨⟨(), rfl, trivial, by rw [ht]; exact hP, va_K.moved hW.alike hK, hD⟩, hS.F ht⟩) hS.2.2 hd
end
