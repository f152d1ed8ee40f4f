/-! ===== the box: one judgement over the kit's, with the world, the locals and the stack in the goal ===== -/
/-- what a launch gives: the classes' numbers, the numbers of int[], byte[], Rider[], Sheet[], the addresses of the four String constants and of their bytes -/
abbrev En : Type := va_G × ClassId × ClassId × ClassId × ClassId × (Nat → Nat) × (Nat → Nat)
abbrev En.D (E : En) : va_G := E.1
abbrev En.cI (E : En) : ClassId := E.2.1
abbrev En.cB (E : En) : ClassId := E.2.2.1
abbrev En.cR (E : En) : ClassId := E.2.2.2.1
abbrev En.cS (E : En) : ClassId := E.2.2.2.2.1
abbrev En.aK (E : En) : Nat → Nat := E.2.2.2.2.2.1
abbrev En.aV (E : En) : Nat → Nat := E.2.2.2.2.2.2
abbrev En.tys (E : En) : List (ClassId × FieldType) := [(E.cI, .int), (E.cB, .byte), (E.cR, .object RX6), (E.cS, .object RX7)]
def strLen : List Nat := [3, 9, 3, 7]
def strByt : List (List Int32) := [[104, 99, 110], [104, 42, 50, 43, 110, 45, 99, 42, 52], [115, 107, 100], [115, 47, 107, 45, 100, 42, 50]]
def nestQ : List (String × Nat × MethodName × String) := [(RX4, 79, yX11_riderOf, RX11), (RX4, 104, yX11_placeOf, RX11), (RX2, 70, yX11_held, RX11), (RX11, 31, yX9_init, RX11), (RX11, 40, yX7_init, RX11), (RX4, 111, yX11_asHeard, RX11), (RX4, 115, yX11_otherWay, RX11), (RX4, 118, yX11_unheard, RX11), (RX4, 131, yX11_held, RX11), (RX4, 150, yX11_factsOf, RX11), (RX4, 153, yX11_bothWays, RX11), (RX4, 156, yX11_turned, RX11), (RX7, 28, yX11_held, RX11)]
def castQ : List (String × String) := [(RX1, RX0), (RX5, RX3), (RX8, RX10), (RX0, RX6), (RX3, RX6), (RX10, RX6), (RX1, RX6), (RX5, RX6), (RX8, RX6)]
def declQ : List MethodName := [yX6_credit, yX6_doubts, yX6_tells, yX0_says, yX6_rises]
def ncQ : List (String × String) := [(RX6, RX0), (RX6, RX3), (RX6, RX10), (RX6, RX1), (RX6, RX5), (RX6, RX8), (RX0, RX3), (RX0, RX10), (RX0, RX1), (RX0, RX5), (RX0, RX8), (RX3, RX0), (RX3, RX10), (RX3, RX1), (RX3, RX5), (RX3, RX8), (RX10, RX0), (RX10, RX3), (RX10, RX1), (RX10, RX5), (RX10, RX8), (RX1, RX3), (RX1, RX10), (RX1, RX5), (RX1, RX8), (RX5, RX0), (RX5, RX10), (RX5, RX1), (RX5, RX8), (RX8, RX0), (RX8, RX3), (RX8, RX1), (RX8, RX5)]
/-- what the tables say beside the words -/
def EnOk (E : En) (U : State) : Prop := va_K E.D vwCl E.tys U ∧ (∀ q ∈ nestQ, va_Nw (.methodLinkNest q.1 q.2.1 q.2.2.1 q.2.2.2) U) ∧ (∀ q ∈ castQ, va_Nw (.castable q.1 q.2) U) ∧ (∀ q ∈ ncQ, va_Nc q.1 q.2 U) ∧ va_AO RX6 U ∧ va_AO RX7 U ∧ (vk_R RX4 58 "hcn" (E.aK 0) U ∧ vk_R RX4 60 "h*2+n-c*4" (E.aK 1) U ∧ vk_R RX4 69 "skd" (E.aK 2) U ∧ vk_R RX4 71 "s/k-d*2" (E.aK 3) U) ∧ (∀ q ∈ declQ, va_Nw (.declares q) U)
theorem EnOk.warm {E : En} {s U : State} (hW : s.WarmedH U.vm) (h : EnOk E s) : EnOk E U :=
  ⟨va_K.moved hW.alike h.1, fun q hq => va_Nw.warmM hW (h.2.1 q hq), fun q hq => va_Nw.warmC hW (h.2.2.1 q hq), fun q hq => va_Nc.moved hW.alike (h.2.2.2.1 q hq), va_AO.moved hW.alike h.2.2.2.2.1, va_AO.moved hW.alike h.2.2.2.2.2.1, ⟨vk_R.warm hW h.2.2.2.2.2.2.1.1, vk_R.warm hW h.2.2.2.2.2.2.1.2.1, vk_R.warm hW h.2.2.2.2.2.2.1.2.2.1, vk_R.warm hW h.2.2.2.2.2.2.1.2.2.2⟩, fun q hq => va_Nw.warmD hW (h.2.2.2.2.2.2.2 q hq)⟩
theorem EnOk.call {E : En} {U : State} {g : JFrame} {mk : MethodId} {a : Array Value} (h : EnOk E U) : EnOk E (U.calling g mk a) :=
  ⟨va_K.moved (u := U) (U := U.calling g mk a) (Vm.Alike.refl U.vm) h.1, fun q hq => va_Nw.same (u := U) (U := U.calling g mk a) rfl rfl (h.2.1 q hq), fun q hq => va_Nw.same (u := U) (U := U.calling g mk a) rfl rfl (h.2.2.1 q hq), fun q hq => va_Nc.moved (u := U) (U := U.calling g mk a) (Vm.Alike.refl U.vm) (h.2.2.2.1 q hq), va_AO.moved (u := U) (U := U.calling g mk a) (Vm.Alike.refl U.vm) h.2.2.2.2.1, va_AO.moved (u := U) (U := U.calling g mk a) (Vm.Alike.refl U.vm) h.2.2.2.2.2.1, ⟨vk_R.same (u := U) (U := U.calling g mk a) rfl h.2.2.2.2.2.2.1.1, vk_R.same (u := U) (U := U.calling g mk a) rfl h.2.2.2.2.2.2.1.2.1, vk_R.same (u := U) (U := U.calling g mk a) rfl h.2.2.2.2.2.2.1.2.2.1, vk_R.same (u := U) (U := U.calling g mk a) rfl h.2.2.2.2.2.2.1.2.2.2⟩, fun q hq => va_Nw.same (u := U) (U := U.calling g mk a) rfl rfl (h.2.2.2.2.2.2.2 q hq)⟩
/-- what is only read: cells outside A, the String constants, two statics -/
def RoOK (E : En) (ro : va_W) (A : Nat → Prop) (U : State) (H : Heap) : Prop := va_P E.D vwCl ro H ∧ (∀ (k : Nat) (q : Nat × va_E), ro[k]? = some q → ¬ A q.1) ∧ vk_S 4 strLen strByt E.aK E.aV A U H ∧ va_Z "java/lang/String" "COMPACT_STRINGS" "Z" (.int 1) A U H ∧ va_Zq "jdk/internal/util/Preconditions" "SIOOBE_FORMATTER" "Ljava/util/function/BiFunction;" A U H
theorem RoOK.kept {E : En} {ro : va_W} {A : Nat → Prop} {U : State} {H H1 : Heap} (h : RoOK E ro A U H) (hq : ∀ a : Nat, a < H.size → ¬ A a → H1[a]? = H[a]?) : RoOK E ro A U H1 :=
  ⟨h.1.kept (fun k q hk => hq q.1 (h.1 k q hk).lt (h.2.1 k q hk)), h.2.1, h.2.2.1.kept hq, h.2.2.2.1.kept hq, h.2.2.2.2.kept hq⟩
theorem RoOK.narrow {E : En} {ro : va_W} {A B : Nat → Prop} {U : State} {H : Heap} (h : RoOK E ro A U H) (hAB : ∀ q, B q → A q) : RoOK E ro B U H :=
  ⟨h.1, fun k q hk hb => h.2.1 k q hk (hAB _ hb), h.2.2.1.narrow hAB, h.2.2.2.1.narrow hAB, h.2.2.2.2.narrow hAB⟩
theorem RoOK.moved {E : En} {ro : va_W} {A : Nat → Prop} {u U : State} {H : Heap} (hvm : u.vm.Alike U.vm) (h : RoOK E ro A u H) : RoOK E ro A U H :=
  ⟨h.1, h.2.1, h.2.2.1.moved hvm, h.2.2.2.1.moved hvm, h.2.2.2.2.moved hvm⟩
theorem RoOK.sub {E : En} {ro ro' : va_W} {A : Nat → Prop} {U : State} {H : Heap} (h : RoOK E ro A U H) (hs : ∀ q ∈ ro', q ∈ ro) : RoOK E ro' A U H := by
  refine ⟨fun k q hk => ?_, fun k q hk => ?_, h.2.2⟩
  · obtain ⟨i, hi⟩ := List.getElem?_of_mem (hs q (List.mem_of_getElem? hk))
    exact h.1 i q hi
  · obtain ⟨i, hi⟩ := List.getElem?_of_mem (hs q (List.mem_of_getElem? hk))
    exact h.2.1 i q hi
/-- the surroundings of a walk: program, launch, environment, room, the start's state, method's number, arguments, frames below, method, code, the cells that may change, the end, En, what is only read -/
abbrev Cx : Type := Program × Launch × Env × Jvm.Room × State × MethodId × Array Value × List Frame × Method × Code × (Nat → Prop) × (State → Prop) × En × va_W
abbrev Cx.p (X : Cx) : Program := X.1
abbrev Cx.l (X : Cx) : Launch := X.2.1
abbrev Cx.e (X : Cx) : Env := X.2.2.1
abbrev Cx.R (X : Cx) : Jvm.Room := X.2.2.2.1
abbrev Cx.s (X : Cx) : State := X.2.2.2.2.1
abbrev Cx.m (X : Cx) : MethodId := X.2.2.2.2.2.1
abbrev Cx.args (X : Cx) : Array Value := X.2.2.2.2.2.2.1
abbrev Cx.below (X : Cx) : List Frame := X.2.2.2.2.2.2.2.1
abbrev Cx.meth (X : Cx) : Method := X.2.2.2.2.2.2.2.2.1
abbrev Cx.c (X : Cx) : Code := X.2.2.2.2.2.2.2.2.2.1
abbrev Cx.A (X : Cx) : Nat → Prop := X.2.2.2.2.2.2.2.2.2.2.1
abbrev Cx.Q (X : Cx) : State → Prop := X.2.2.2.2.2.2.2.2.2.2.2.1
abbrev Cx.E (X : Cx) : En := X.2.2.2.2.2.2.2.2.2.2.2.2.1
abbrev Cx.ro (X : Cx) : va_W := X.2.2.2.2.2.2.2.2.2.2.2.2.2
def G (X : Cx) (nL ce sl pc : Nat) (lv : List (Nat × Value)) (st : List Value) (ws : va_W) : Prop :=
  ∀ (H : Heap) (locs : List Loc) (ls : Array Slot), va_P X.E.D vwCl ws H → va_D X.A ws → va_S X.A X.s.heap H locs → lv_has ls nL lv → W X.p X.l X.e X.R X.s X.m X.args X.below X.meth X.c H locs ce sl X.Q (F0 X.m pc ls st)
def Ok (X : Cx) (cc : ByteArray) (nL : Nat) (own : String) : Prop :=
  X.p.tables.exec = Jvm.exec ∧ X.c.code = cc ∧ X.c.maxLocals = nL ∧ X.s.vm.findClass own = some X.m.cls ∧ (∀ w ∈ wU, w.before X.args X.s = true) ∧ EnOk X.E X.s ∧ (∀ q, X.s.heap.size ≤ q → X.A q) ∧ RoOK X.E X.ro X.A X.s X.s.heap
/-- the room of a method whose calls stand at most d deep -/
def rmD (d mc ms : Nat) : Jvm.Room := { frames := d, cells := mc, slots := ms, locals := 64 * d }
def QcOf (E : En) (A : Nat → Prop) (Post : Option Value → va_W → Prop) : Array Value → State → Outcome → State → Prop := fun _ st oc t => (∃ rv ws', Post rv ws' ∧ oc = .returned rv ∧ va_P E.D vwCl ws' t.heap ∧ va_D A ws') ∧ va_F A st t
/-- the end of a method: its room, its answer's type, what it owes -/
def Rq (X : Cx) (d mc ms : Nat) (ret : Option FieldType) (Post : Option Value → va_W → Prop) : Prop :=
  X.R = rmD d mc ms ∧ X.meth.sig.returnType = ret ∧ X.meth.locks = false ∧ X.Q = MQ X.below (QcOf X.E X.A Post) X.args X.s mc ms X.A
/-- a method's contract: called with av where the cells ws are (and ro are only read), it returns; its answer and what the cells are then are as Post says -/
def CP (l : Launch) (E : En) (y : MethodName) (cc : ByteArray) (nL : Nat) (ret : Option FieldType) (d mc ms : Nat) (ro : va_W) (av : List Value) (ws : va_W) (Post : Option Value → va_W → Prop) : Prop :=
  ∀ sz : Nat, Met l y (.code y cc nL ret :: wU) (rmD d mc ms) (va_Pc av (fun U => U.heap.size = sz ∧ va_P E.D vwCl ws U.heap ∧ va_D (fun _ => True) ws ∧ EnOk E U ∧ RoOK E ro (va_A ws sz) U U.heap)) (QcOf E (va_A ws sz) Post) mc ms (va_A ws sz)
theorem CP.of {l : Launch} {E : En} {y : MethodName} {cc : ByteArray} {nL : Nat} {ret : Option FieldType} {d mc ms : Nat} {ro : va_W} {av : List Value} {ws : va_W} {Post : Option Value → va_W → Prop} {lv : List (Nat × Value)}
    (hy : plainName y.cls = true) (hn : (lg_sl av).length ≤ nL) (hlv : lv_args 0 av = lv)
    (body : ∀ X : Cx, X.l = l → X.E = E → X.ro = ro → Ok X cc nL y.cls → Rq X d mc ms ret Post → X.meth.name = y.name → G X nL 0 0 0 lv [] ws) : CP l E y cc nL ret d mc ms ro av ws Post := by
  intro sz
  refine Met.ofW (cc := cc) (maxL := nL) (ret := ret) hy rfl ?_
  intro p e s m args below meth c s₁ B hml hv
  obtain ⟨rfl, hsz, hP, hD0, hE, hRo⟩ := hv
  have hts := atoms_spec (ws := .code y cc nL ret :: wU) B.pre
  subst hsz
  have hD : va_D (va_A ws s.heap.size) ws := hD0.self (sz := s.heap.size)
  have hl := lv_entry av (n := nL) hn
  rw [lg_entry_eq]
  rw [hlv] at hl
  exact body (p, l, e, rmD d mc ms, s, m, av.toArray, below, meth, c, va_A ws s.heap.size, MQ below (QcOf E (va_A ws s.heap.size) Post) av.toArray s mc ms (va_A ws s.heap.size), E, ro) rfl rfl rfl
    ⟨B.exec, B.bytes, hml, findClass_of_methodNamed B.named, fun w hw => hts w (List.mem_cons_of_mem _ hw), hE, fun q h => Or.inr h, hRo⟩
    ⟨rfl, B.returns, B.notSynchronized, rfl⟩ (name_of_methodNamed B.named B.method).1 s.heap [] _ hP hD va_S.rf hl
section BOX
variable {X : Cx} {cc : ByteArray} {nL ce sl pc : Nat} {own : String} {lv lv' : List (Nat × Value)} {st : List Value} {ws : va_W}
theorem Ok.hx (h : Ok X cc nL own) : X.p.tables.exec = Jvm.exec := h.1
theorem Ok.hb (h : Ok X cc nL own) : X.c.code = cc := h.2.1
theorem Ok.hml (h : Ok X cc nL own) : X.c.maxLocals = nL := h.2.2.1
theorem Ok.hown (h : Ok X cc nL own) : X.s.vm.findClass own = some X.m.cls := h.2.2.2.1
theorem Ok.hts (h : Ok X cc nL own) : ∀ w ∈ wU, w.before X.args X.s = true := h.2.2.2.2.1
theorem Ok.hE (h : Ok X cc nL own) : EnOk X.E X.s := h.2.2.2.2.2.1
theorem Ok.hK (h : Ok X cc nL own) : va_K X.E.D vwCl X.E.tys X.s := h.2.2.2.2.2.1.1
theorem Ok.hA (h : Ok X cc nL own) : ∀ q, X.s.heap.size ≤ q → X.A q := h.2.2.2.2.2.2.1
theorem Ok.hRo (h : Ok X cc nL own) : RoOK X.E X.ro X.A X.s X.s.heap := h.2.2.2.2.2.2.2
theorem Ok.roP (h : Ok X cc nL own) {H : Heap} {locs : List Loc} (hS : va_S X.A X.s.heap H locs) : va_P X.E.D vwCl X.ro H := (h.hRo.kept hS.2.1).1
theorem g_eqW {ws2 : va_W} (h : ws2 = ws) (k : G X nL ce sl pc lv st ws2) : G X nL ce sl pc lv st ws := h ▸ k
theorem g_lv {lv2 : List (Nat × Value)} (ks : List Nat) (hl : lv_pick lv ks = lv2) (k : G X nL ce sl pc lv2 st ws) : G X nL ce sl pc lv st ws := fun H locs ls hP hD hS h => k H locs ls hP hD hS (lv_sub h ks hl)
theorem g_ws {ws2 : va_W} (is : List Nat) (hn : va_nd is = true) (hs : is.map (fun i => ws[i]?) = ws2.map some) (hf : is.filterMap (fun i => ws[i]?) = ws2) (k : G X nL ce sl pc lv st ws2) : G X nL ce sl pc lv st ws := fun H locs ls hP hD hS h => k H locs ls (hP.sub is hf) (hD.sub is hn hs) hS h
theorem g_widen {ce2 sl2 : Nat} (h1 : ce ≤ ce2) (h2 : sl ≤ sl2) (k : G X nL ce2 sl2 pc lv st ws) : G X nL ce sl pc lv st ws := fun H locs ls hP hD hS h => W.widen h1 h2 (k H locs ls hP hD hS h)
theorem g_nm {x y : Int32} (e : y = x) (k : G X nL ce sl pc lv (.int y :: st) ws) : G X nL ce sl pc lv (.int x :: st) ws := e ▸ k
theorem g_iconst (hX : Ok X cc nL own) {n : Int} {v : Int32} (hv : Int32.ofInt n = v) (hdg : decode cc pc = .ok (.iconst n, 1)) (k : G X nL ce sl (pc + 1) lv (.int v :: st) ws) : G X nL ce sl pc lv st ws :=
  fun H locs ls hP hD hS h => lv_iconst hX.hx hX.hb hdg hv (k H locs ls hP hD hS h)
theorem g_bipush (hX : Ok X cc nL own) {n : Int} {v : Int32} (hv : (Int8.ofInt n).toInt32 = v) (hdg : decode cc pc = .ok (.bipush n, 2)) (k : G X nL ce sl (pc + 2) lv (.int v :: st) ws) : G X nL ce sl pc lv st ws :=
  fun H locs ls hP hD hS h => lv_bipush hX.hx hX.hb hdg hv (k H locs ls hP hD hS h)
theorem g_sipush (hX : Ok X cc nL own) {n : Int} {v : Int32} (hv : (Int16.ofInt n).toInt32 = v) (hdg : decode cc pc = .ok (.sipush n, 3)) (k : G X nL ce sl (pc + 3) lv (.int v :: st) ws) : G X nL ce sl pc lv st ws :=
  fun H locs ls hP hD hS h => lv_sipush hX.hx hX.hb hdg hv (k H locs ls hP hD hS h)
theorem g_ldc (hX : Ok X cc nL own) {index : Nat} {v : Int32} (hw : Cond.constant own index v ∈ wU) (hdg : decode cc pc = .ok (.ldc index, 2)) (k : G X nL ce sl (pc + 2) lv (.int v :: st) ws) : G X nL ce sl pc lv st ws :=
  fun H locs ls hP hD hS h => lv_ldc hX.hx hX.hb hX.hown (hX.hts _ hw) hdg (k H locs ls hP hD hS h)
theorem g_ldcw (hX : Ok X cc nL own) {index : Nat} {v : Int32} (hw : Cond.constant own index v ∈ wU) (hdg : decode cc pc = .ok (.ldc_w index, 3)) (k : G X nL ce sl (pc + 3) lv (.int v :: st) ws) : G X nL ce sl pc lv st ws :=
  fun H locs ls hP hD hS h => lv_ldcw hX.hx hX.hb hX.hown (hX.hts _ hw) hdg (k H locs ls hP hD hS h)
theorem g_ldc2 (hX : Ok X cc nL own) {index : Nat} {v : Int64} (hw : Cond.constantLong own index v ∈ wU) (hdg : decode cc pc = .ok (.ldc2_w index, 3)) (k : G X nL ce sl (pc + 3) lv (.long v :: st) ws) : G X nL ce sl pc lv st ws :=
  fun H locs ls hP hD hS h => lv_ldc2 hX.hx hX.hb hX.hown (hX.hts _ hw) hdg (k H locs ls hP hD hS h)
theorem g_iloadn (hX : Ok X cc nL own) (j : Nat) {n : Fin 4} {i : Nat} {x : Int32} (hi : (n : Nat) = i) (hl : lv[j]? = some (i, .int x)) (hdg : decode cc pc = .ok (.iload_n n, 1)) (k : G X nL ce sl (pc + 1) lv (.int x :: st) ws) : G X nL ce sl pc lv st ws :=
  fun H locs ls hP hD hS h => lv_iload_n hX.hx hX.hb hdg hi (lv_at h j hl) (k H locs ls hP hD hS h)
theorem g_iload (hX : Ok X cc nL own) (j : Nat) {i : Nat} {x : Int32} (hl : lv[j]? = some (i, .int x)) (hdg : decode cc pc = .ok (.iload i, 2)) (k : G X nL ce sl (pc + 2) lv (.int x :: st) ws) : G X nL ce sl pc lv st ws :=
  fun H locs ls hP hD hS h => lv_iload hX.hx hX.hb hdg (lv_at h j hl) (k H locs ls hP hD hS h)
theorem g_lloadn (hX : Ok X cc nL own) (j : Nat) {n : Fin 4} {i : Nat} {x : Int64} (hi : (n : Nat) = i) (hl : lv[j]? = some (i, .long x)) (hdg : decode cc pc = .ok (.lload_n n, 1)) (k : G X nL ce sl (pc + 1) lv (.long x :: st) ws) : G X nL ce sl pc lv st ws :=
  fun H locs ls hP hD hS h => lv_lload_n hX.hx hX.hb hdg hi (lv_at h j hl) (k H locs ls hP hD hS h)
theorem g_aloadn (hX : Ok X cc nL own) (j : Nat) {n : Fin 4} {i : Nat} {x : Nat} (hi : (n : Nat) = i) (hl : lv[j]? = some (i, .ref x)) (hdg : decode cc pc = .ok (.aload_n n, 1)) (k : G X nL ce sl (pc + 1) lv (.ref x :: st) ws) : G X nL ce sl pc lv st ws :=
  fun H locs ls hP hD hS h => lv_aload_n hX.hx hX.hb hdg hi (lv_at h j hl) (k H locs ls hP hD hS h)
theorem g_aload (hX : Ok X cc nL own) (j : Nat) {i : Nat} {x : Nat} (hl : lv[j]? = some (i, .ref x)) (hdg : decode cc pc = .ok (.aload i, 2)) (k : G X nL ce sl (pc + 2) lv (.ref x :: st) ws) : G X nL ce sl pc lv st ws :=
  fun H locs ls hP hD hS h => lv_aload hX.hx hX.hb hdg (lv_at h j hl) (k H locs ls hP hD hS h)
theorem g_istoren (hX : Ok X cc nL own) {n : Fin 4} {i : Nat} {x : Int32} (lv' : List (Nat × Value)) (hi : (n : Nat) = i) (hn : i < nL) (hl : (i, Value.int x) :: lv.filter (fun q => !(q.1 == i) && !(q.1 + 1 == i && q.2.category == 2)) = lv') (hdg : decode cc pc = .ok (.istore_n n, 1)) (k : G X nL ce sl (pc + 1) lv' st ws) : G X nL ce sl pc lv (.int x :: st) ws :=
  fun H locs ls hP hD hS h => lv_istore_n hX.hx hX.hb hdg hi h hn hl (fun ls h => k H locs ls hP hD hS h)
theorem g_istore (hX : Ok X cc nL own) {i : Nat} {x : Int32} (lv' : List (Nat × Value)) (hn : i < nL) (hl : (i, Value.int x) :: lv.filter (fun q => !(q.1 == i) && !(q.1 + 1 == i && q.2.category == 2)) = lv') (hdg : decode cc pc = .ok (.istore i, 2)) (k : G X nL ce sl (pc + 2) lv' st ws) : G X nL ce sl pc lv (.int x :: st) ws :=
  fun H locs ls hP hD hS h => lv_istore hX.hx hX.hb hdg h hn hl (fun ls h => k H locs ls hP hD hS h)
theorem g_astoren (hX : Ok X cc nL own) {n : Fin 4} {i : Nat} {x : Nat} (lv' : List (Nat × Value)) (hi : (n : Nat) = i) (hn : i < nL) (hl : (i, Value.ref x) :: lv.filter (fun q => !(q.1 == i) && !(q.1 + 1 == i && q.2.category == 2)) = lv') (hdg : decode cc pc = .ok (.astore_n n, 1)) (k : G X nL ce sl (pc + 1) lv' st ws) : G X nL ce sl pc lv (.ref x :: st) ws :=
  fun H locs ls hP hD hS h => lv_astore_n hX.hx hX.hb hdg hi h hn hl (fun ls h => k H locs ls hP hD hS h)
theorem g_astore (hX : Ok X cc nL own) {i : Nat} {x : Nat} (lv' : List (Nat × Value)) (hn : i < nL) (hl : (i, Value.ref x) :: lv.filter (fun q => !(q.1 == i) && !(q.1 + 1 == i && q.2.category == 2)) = lv') (hdg : decode cc pc = .ok (.astore i, 2)) (k : G X nL ce sl (pc + 2) lv' st ws) : G X nL ce sl pc lv (.ref x :: st) ws :=
  fun H locs ls hP hD hS h => lv_astore hX.hx hX.hb hdg h hn hl (fun ls h => k H locs ls hP hD hS h)
theorem g_iinc (hX : Ok X cc nL own) (j : Nat) {i : Nat} {n : Int} {x v : Int32} (lv' : List (Nat × Value)) (hk : lv[j]? = some (i, .int x)) (hv : x + Int32.ofInt n = v) (hn : i < nL) (hl : (i, Value.int v) :: lv.filter (fun q => !(q.1 == i) && !(q.1 + 1 == i && q.2.category == 2)) = lv') (hdg : decode cc pc = .ok (.iinc i n, 3)) (k : G X nL ce sl (pc + 3) lv' st ws) : G X nL ce sl pc lv st ws :=
  fun H locs ls hP hD hS h => lv_iinc hX.hx hX.hb hdg h hk hv hn hl (fun ls h => k H locs ls hP hD hS h)
theorem g_iadd (hX : Ok X cc nL own) {x y : Int32} (hdg : decode cc pc = .ok (.iadd, 1)) (k : G X nL ce sl (pc + 1) lv (.int (x + y) :: st) ws) : G X nL ce sl pc lv (.int y :: .int x :: st) ws :=
  fun H locs ls hP hD hS h => lv_iadd hX.hx hX.hb hdg (k H locs ls hP hD hS h)
theorem g_isub (hX : Ok X cc nL own) {x y : Int32} (hdg : decode cc pc = .ok (.isub, 1)) (k : G X nL ce sl (pc + 1) lv (.int (x - y) :: st) ws) : G X nL ce sl pc lv (.int y :: .int x :: st) ws :=
  fun H locs ls hP hD hS h => lv_isub hX.hx hX.hb hdg (k H locs ls hP hD hS h)
theorem g_imul (hX : Ok X cc nL own) {x y : Int32} (hdg : decode cc pc = .ok (.imul, 1)) (k : G X nL ce sl (pc + 1) lv (.int (x * y) :: st) ws) : G X nL ce sl pc lv (.int y :: .int x :: st) ws :=
  fun H locs ls hP hD hS h => lv_imul hX.hx hX.hb hdg (k H locs ls hP hD hS h)
theorem g_iand (hX : Ok X cc nL own) {x y : Int32} (hdg : decode cc pc = .ok (.iand, 1)) (k : G X nL ce sl (pc + 1) lv (.int (x &&& y) :: st) ws) : G X nL ce sl pc lv (.int y :: .int x :: st) ws :=
  fun H locs ls hP hD hS h => lv_iand hX.hx hX.hb hdg (k H locs ls hP hD hS h)
theorem g_ior (hX : Ok X cc nL own) {x y : Int32} (hdg : decode cc pc = .ok (.ior, 1)) (k : G X nL ce sl (pc + 1) lv (.int (x ||| y) :: st) ws) : G X nL ce sl pc lv (.int y :: .int x :: st) ws :=
  fun H locs ls hP hD hS h => lv_ior hX.hx hX.hb hdg (k H locs ls hP hD hS h)
theorem g_ixor (hX : Ok X cc nL own) {x y : Int32} (hdg : decode cc pc = .ok (.ixor, 1)) (k : G X nL ce sl (pc + 1) lv (.int (x ^^^ y) :: st) ws) : G X nL ce sl pc lv (.int y :: .int x :: st) ws :=
  fun H locs ls hP hD hS h => lv_ixor hX.hx hX.hb hdg (k H locs ls hP hD hS h)
theorem g_ishl (hX : Ok X cc nL own) {x y : Int32} (hdg : decode cc pc = .ok (.ishl, 1)) (k : G X nL ce sl (pc + 1) lv (.int (x <<< (y &&& 31)) :: st) ws) : G X nL ce sl pc lv (.int y :: .int x :: st) ws :=
  fun H locs ls hP hD hS h => lv_ishl hX.hx hX.hb hdg (k H locs ls hP hD hS h)
theorem g_ishr (hX : Ok X cc nL own) {x y : Int32} (hdg : decode cc pc = .ok (.ishr, 1)) (k : G X nL ce sl (pc + 1) lv (.int (x >>> (y &&& 31)) :: st) ws) : G X nL ce sl pc lv (.int y :: .int x :: st) ws :=
  fun H locs ls hP hD hS h => lv_ishr hX.hx hX.hb hdg (k H locs ls hP hD hS h)
theorem g_idiv (hX : Ok X cc nL own) {x y : Int32} (hne : ¬ y = 0) (hdg : decode cc pc = .ok (.idiv, 1)) (k : G X nL ce sl (pc + 1) lv (.int (x / y) :: st) ws) : G X nL ce sl pc lv (.int y :: .int x :: st) ws :=
  fun H locs ls hP hD hS h => lv_idiv hX.hx hX.hb hdg hne (k H locs ls hP hD hS h)
theorem g_irem (hX : Ok X cc nL own) {x y : Int32} (hne : ¬ y = 0) (hdg : decode cc pc = .ok (.irem, 1)) (k : G X nL ce sl (pc + 1) lv (.int (x - x / y * y) :: st) ws) : G X nL ce sl pc lv (.int y :: .int x :: st) ws :=
  fun H locs ls hP hD hS h => lv_irem hX.hx hX.hb hdg hne (k H locs ls hP hD hS h)
theorem g_iushr (hX : Ok X cc nL own) {x y : Int32} (hdg : decode cc pc = .ok (.iushr, 1)) (k : G X nL ce sl (pc + 1) lv (.int ((x.toUInt32 >>> (y.toUInt32 &&& Int32.toUInt32 31)).toInt32) :: st) ws) : G X nL ce sl pc lv (.int y :: .int x :: st) ws :=
  fun H locs ls hP hD hS h => lv_iushr hX.hx hX.hb hdg rfl (k H locs ls hP hD hS h)
theorem g_ineg (hX : Ok X cc nL own) {x : Int32} (hdg : decode cc pc = .ok (.ineg, 1)) (k : G X nL ce sl (pc + 1) lv (.int (-x) :: st) ws) : G X nL ce sl pc lv (.int x :: st) ws :=
  fun H locs ls hP hD hS h => lv_ineg hX.hx hX.hb hdg (k H locs ls hP hD hS h)
theorem g_i2b (hX : Ok X cc nL own) {x : Int32} (hdg : decode cc pc = .ok (.i2b, 1)) (k : G X nL ce sl (pc + 1) lv (.int (x.toInt8.toInt32) :: st) ws) : G X nL ce sl pc lv (.int x :: st) ws :=
  fun H locs ls hP hD hS h => lv_i2b hX.hx hX.hb hdg rfl (k H locs ls hP hD hS h)
theorem g_i2s (hX : Ok X cc nL own) {x : Int32} (hdg : decode cc pc = .ok (.i2s, 1)) (k : G X nL ce sl (pc + 1) lv (.int (x.toInt16.toInt32) :: st) ws) : G X nL ce sl pc lv (.int x :: st) ws :=
  fun H locs ls hP hD hS h => lv_i2s hX.hx hX.hb hdg rfl (k H locs ls hP hD hS h)
theorem g_i2c (hX : Ok X cc nL own) {x : Int32} (hdg : decode cc pc = .ok (.i2c, 1)) (k : G X nL ce sl (pc + 1) lv (.int ((x.toUInt32 % 65536).toInt32) :: st) ws) : G X nL ce sl pc lv (.int x :: st) ws :=
  fun H locs ls hP hD hS h => lv_i2c hX.hx hX.hb hdg rfl (k H locs ls hP hD hS h)
theorem g_i2l (hX : Ok X cc nL own) {x : Int32} (hdg : decode cc pc = .ok (.i2l, 1)) (k : G X nL ce sl (pc + 1) lv (.long x.toInt64 :: st) ws) : G X nL ce sl pc lv (.int x :: st) ws :=
  fun H locs ls hP hD hS h => lv_i2l hX.hx hX.hb hdg rfl (k H locs ls hP hD hS h)
theorem g_l2i (hX : Ok X cc nL own) {x : Int64} (hdg : decode cc pc = .ok (.l2i, 1)) (k : G X nL ce sl (pc + 1) lv (.int x.toInt32 :: st) ws) : G X nL ce sl pc lv (.long x :: st) ws :=
  fun H locs ls hP hD hS h => lv_l2i hX.hx hX.hb hdg rfl (k H locs ls hP hD hS h)
theorem g_land (hX : Ok X cc nL own) {x y : Int64} (hdg : decode cc pc = .ok (.land, 1)) (k : G X nL ce sl (pc + 1) lv (.long (x &&& y) :: st) ws) : G X nL ce sl pc lv (.long y :: .long x :: st) ws :=
  fun H locs ls hP hD hS h => lv_land hX.hx hX.hb hdg (k H locs ls hP hD hS h)
theorem g_lor (hX : Ok X cc nL own) {x y : Int64} (hdg : decode cc pc = .ok (.lor, 1)) (k : G X nL ce sl (pc + 1) lv (.long (x ||| y) :: st) ws) : G X nL ce sl pc lv (.long y :: .long x :: st) ws :=
  fun H locs ls hP hD hS h => lv_lor hX.hx hX.hb hdg (k H locs ls hP hD hS h)
theorem g_lshl (hX : Ok X cc nL own) {x : Int64} {y : Int32} (hdg : decode cc pc = .ok (.lshl, 1)) (k : G X nL ce sl (pc + 1) lv (.long (x <<< (y.toInt64 &&& 63)) :: st) ws) : G X nL ce sl pc lv (.int y :: .long x :: st) ws :=
  fun H locs ls hP hD hS h => lv_lshl hX.hx hX.hb hdg rfl (k H locs ls hP hD hS h)
theorem g_lshr (hX : Ok X cc nL own) {x : Int64} {y : Int32} (hdg : decode cc pc = .ok (.lshr, 1)) (k : G X nL ce sl (pc + 1) lv (.long (x >>> (y.toInt64 &&& 63)) :: st) ws) : G X nL ce sl pc lv (.int y :: .long x :: st) ws :=
  fun H locs ls hP hD hS h => lv_lshr hX.hx hX.hb hdg rfl (k H locs ls hP hD hS h)
theorem g_dup (hX : Ok X cc nL own) {v : Value} (hc : v.category = 1) (hdg : decode cc pc = .ok (.dup, 1)) (k : G X nL ce sl (pc + 1) lv (v :: v :: st) ws) : G X nL ce sl pc lv (v :: st) ws :=
  fun H locs ls hP hD hS h => lv_dup hX.hx hX.hb hdg hc (k H locs ls hP hD hS h)
theorem g_dup2 (hX : Ok X cc nL own) {v w : Value} (hc : v.category = 1) (hc2 : w.category = 1) (hdg : decode cc pc = .ok (.dup2, 1)) (k : G X nL ce sl (pc + 1) lv (v :: w :: v :: w :: st) ws) : G X nL ce sl pc lv (v :: w :: st) ws :=
  fun H locs ls hP hD hS h => lv_dup2_11 hX.hx hX.hb hdg hc hc2 (k H locs ls hP hD hS h)
theorem g_pop (hX : Ok X cc nL own) {v : Value} (hc : v.category = 1) (hdg : decode cc pc = .ok (.pop, 1)) (k : G X nL ce sl (pc + 1) lv st ws) : G X nL ce sl pc lv (v :: st) ws :=
  fun H locs ls hP hD hS h => lv_pop hX.hx hX.hb hdg hc (k H locs ls hP hD hS h)
theorem g_goto (hX : Ok X cc nL own) (tgt : Nat) {off : Int} (ht : (pc : Int) + off = (tgt : Int)) (hdg : decode cc pc = .ok (.goto off, 3)) (k : G X nL ce sl tgt lv st ws) : G X nL ce sl pc lv st ws :=
  fun H locs ls hP hD hS h => lv_goto hX.hx hX.hb hdg ht (k H locs ls hP hD hS h)
theorem g_icmp_eq (hX : Ok X cc nL own) {x y : Int32} (tgt : Nat) {off : Int} (ht : (pc : Int) + off = (tgt : Int)) (hdg : decode cc pc = .ok (.if_icmp .eq off, 3)) (kt : x = y → G X nL ce sl tgt lv st ws) (kf : ¬ x = y → G X nL ce sl (pc + 3) lv st ws) : G X nL ce sl pc lv (.int y :: .int x :: st) ws :=
  fun H locs ls hP hD hS h => lv_icmp_eq hX.hx hX.hb hdg ht (fun q => kt q H locs ls hP hD hS h) (fun q => kf q H locs ls hP hD hS h)
theorem g_if_eq (hX : Ok X cc nL own) {x : Int32} (tgt : Nat) {off : Int} (ht : (pc : Int) + off = (tgt : Int)) (hdg : decode cc pc = .ok (.ifCond .eq off, 3)) (kt : x = 0 → G X nL ce sl tgt lv st ws) (kf : ¬ x = 0 → G X nL ce sl (pc + 3) lv st ws) : G X nL ce sl pc lv (.int x :: st) ws :=
  fun H locs ls hP hD hS h => lv_if_eq hX.hx hX.hb hdg ht (fun q => kt q H locs ls hP hD hS h) (fun q => kf q H locs ls hP hD hS h)
theorem g_icmp_ne (hX : Ok X cc nL own) {x y : Int32} (tgt : Nat) {off : Int} (ht : (pc : Int) + off = (tgt : Int)) (hdg : decode cc pc = .ok (.if_icmp .ne off, 3)) (kt : ¬ x = y → G X nL ce sl tgt lv st ws) (kf : x = y → G X nL ce sl (pc + 3) lv st ws) : G X nL ce sl pc lv (.int y :: .int x :: st) ws :=
  fun H locs ls hP hD hS h => lv_icmp_ne hX.hx hX.hb hdg ht (fun q => kt q H locs ls hP hD hS h) (fun q => kf q H locs ls hP hD hS h)
theorem g_if_ne (hX : Ok X cc nL own) {x : Int32} (tgt : Nat) {off : Int} (ht : (pc : Int) + off = (tgt : Int)) (hdg : decode cc pc = .ok (.ifCond .ne off, 3)) (kt : ¬ x = 0 → G X nL ce sl tgt lv st ws) (kf : x = 0 → G X nL ce sl (pc + 3) lv st ws) : G X nL ce sl pc lv (.int x :: st) ws :=
  fun H locs ls hP hD hS h => lv_if_ne hX.hx hX.hb hdg ht (fun q => kt q H locs ls hP hD hS h) (fun q => kf q H locs ls hP hD hS h)
theorem g_icmp_lt (hX : Ok X cc nL own) {x y : Int32} (tgt : Nat) {off : Int} (ht : (pc : Int) + off = (tgt : Int)) (hdg : decode cc pc = .ok (.if_icmp .lt off, 3)) (kt : x < y → G X nL ce sl tgt lv st ws) (kf : ¬ x < y → G X nL ce sl (pc + 3) lv st ws) : G X nL ce sl pc lv (.int y :: .int x :: st) ws :=
  fun H locs ls hP hD hS h => lv_icmp_lt hX.hx hX.hb hdg ht (fun q => kt q H locs ls hP hD hS h) (fun q => kf q H locs ls hP hD hS h)
theorem g_if_lt (hX : Ok X cc nL own) {x : Int32} (tgt : Nat) {off : Int} (ht : (pc : Int) + off = (tgt : Int)) (hdg : decode cc pc = .ok (.ifCond .lt off, 3)) (kt : x < 0 → G X nL ce sl tgt lv st ws) (kf : ¬ x < 0 → G X nL ce sl (pc + 3) lv st ws) : G X nL ce sl pc lv (.int x :: st) ws :=
  fun H locs ls hP hD hS h => lv_if_lt hX.hx hX.hb hdg ht (fun q => kt q H locs ls hP hD hS h) (fun q => kf q H locs ls hP hD hS h)
theorem g_icmp_ge (hX : Ok X cc nL own) {x y : Int32} (tgt : Nat) {off : Int} (ht : (pc : Int) + off = (tgt : Int)) (hdg : decode cc pc = .ok (.if_icmp .ge off, 3)) (kt : y ≤ x → G X nL ce sl tgt lv st ws) (kf : ¬ y ≤ x → G X nL ce sl (pc + 3) lv st ws) : G X nL ce sl pc lv (.int y :: .int x :: st) ws :=
  fun H locs ls hP hD hS h => lv_icmp_ge hX.hx hX.hb hdg ht (fun q => kt q H locs ls hP hD hS h) (fun q => kf q H locs ls hP hD hS h)
theorem g_if_ge (hX : Ok X cc nL own) {x : Int32} (tgt : Nat) {off : Int} (ht : (pc : Int) + off = (tgt : Int)) (hdg : decode cc pc = .ok (.ifCond .ge off, 3)) (kt : 0 ≤ x → G X nL ce sl tgt lv st ws) (kf : ¬ 0 ≤ x → G X nL ce sl (pc + 3) lv st ws) : G X nL ce sl pc lv (.int x :: st) ws :=
  fun H locs ls hP hD hS h => lv_if_ge hX.hx hX.hb hdg ht (fun q => kt q H locs ls hP hD hS h) (fun q => kf q H locs ls hP hD hS h)
theorem g_icmp_gt (hX : Ok X cc nL own) {x y : Int32} (tgt : Nat) {off : Int} (ht : (pc : Int) + off = (tgt : Int)) (hdg : decode cc pc = .ok (.if_icmp .gt off, 3)) (kt : y < x → G X nL ce sl tgt lv st ws) (kf : ¬ y < x → G X nL ce sl (pc + 3) lv st ws) : G X nL ce sl pc lv (.int y :: .int x :: st) ws :=
  fun H locs ls hP hD hS h => lv_icmp_gt hX.hx hX.hb hdg ht (fun q => kt q H locs ls hP hD hS h) (fun q => kf q H locs ls hP hD hS h)
theorem g_if_gt (hX : Ok X cc nL own) {x : Int32} (tgt : Nat) {off : Int} (ht : (pc : Int) + off = (tgt : Int)) (hdg : decode cc pc = .ok (.ifCond .gt off, 3)) (kt : 0 < x → G X nL ce sl tgt lv st ws) (kf : ¬ 0 < x → G X nL ce sl (pc + 3) lv st ws) : G X nL ce sl pc lv (.int x :: st) ws :=
  fun H locs ls hP hD hS h => lv_if_gt hX.hx hX.hb hdg ht (fun q => kt q H locs ls hP hD hS h) (fun q => kf q H locs ls hP hD hS h)
theorem g_icmp_le (hX : Ok X cc nL own) {x y : Int32} (tgt : Nat) {off : Int} (ht : (pc : Int) + off = (tgt : Int)) (hdg : decode cc pc = .ok (.if_icmp .le off, 3)) (kt : x ≤ y → G X nL ce sl tgt lv st ws) (kf : ¬ x ≤ y → G X nL ce sl (pc + 3) lv st ws) : G X nL ce sl pc lv (.int y :: .int x :: st) ws :=
  fun H locs ls hP hD hS h => lv_icmp_le hX.hx hX.hb hdg ht (fun q => kt q H locs ls hP hD hS h) (fun q => kf q H locs ls hP hD hS h)
theorem g_if_le (hX : Ok X cc nL own) {x : Int32} (tgt : Nat) {off : Int} (ht : (pc : Int) + off = (tgt : Int)) (hdg : decode cc pc = .ok (.ifCond .le off, 3)) (kt : x ≤ 0 → G X nL ce sl tgt lv st ws) (kf : ¬ x ≤ 0 → G X nL ce sl (pc + 3) lv st ws) : G X nL ce sl pc lv (.int x :: st) ws :=
  fun H locs ls hP hD hS h => lv_if_le hX.hx hX.hb hdg ht (fun q => kt q H locs ls hP hD hS h) (fun q => kf q H locs ls hP hD hS h)
end BOX
