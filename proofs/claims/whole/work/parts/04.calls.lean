/-! ===== calls: a callee's cells lie in the middle of the world ===== -/
theorem gi_of {L : List Cond} (h : ∀ w ∈ L, w ∈ wU) : GoodIn wU L := fun w hw => ⟨h w hw, good_of_word (List.mem_filter.mp (h w hw)).2⟩
theorem mem_wsV {own : String} {idx : Nat} {C : String} {y : MethodName} {cd : Cond} (h1 : Cond.methodLink own idx y ∈ wU) (h2 : Cond.instanceMethod y ∈ wU) (h3 : Cond.selects C y y ∈ wU) (h4 : Cond.initialized C ∈ wU) (h5 : cd ∈ wU) : GoodIn wU (wsV own idx C y (cd :: wU)) := by
  refine gi_of (fun w hw => ?_)
  unfold wsV at hw
  simp only [List.mem_append, List.mem_cons, List.not_mem_nil, or_false] at hw
  rcases hw with (rfl | rfl | rfl | rfl) | rfl | hw
  · exact h1
  · exact h2
  · exact h3
  · exact h4
  · exact h5
  · exact hw
theorem mem_wsS {own : String} {idx : Nat} {y : MethodName} {cd : Cond} (h1 : Cond.methodLink own idx y ∈ wU) (h2 : Cond.static y ∈ wU) (h4 : Cond.initialized y.cls ∈ wU) (h5 : cd ∈ wU) : GoodIn wU (va_wsS own idx y (cd :: wU)) := by
  refine gi_of (fun w hw => ?_)
  unfold va_wsS at hw
  simp only [List.mem_append, List.mem_cons, List.not_mem_nil, or_false] at hw
  rcases hw with (rfl | rfl | rfl) | rfl | hw
  · exact h1
  · exact h2
  · exact h4
  · exact h5
  · exact hw
theorem mem_wsO {own : String} {idx : Nat} {C owner : String} {x y : MethodName} {cd : Cond} (h1 : Cond.methodLink own idx x ∈ wU) (h2 : Cond.sameMethod x.cls owner x.name x.desc ∈ wU) (h3 : Cond.instanceMethod ⟨owner, x.name, x.desc⟩ ∈ wU) (h6 : Cond.selects C x y ∈ wU) (h7 : Cond.instanceMethod y ∈ wU) (h4 : Cond.initialized y.cls ∈ wU) (h5 : cd ∈ wU) : GoodIn wU (va_wsO own idx C owner x y (cd :: wU)) := by
  refine gi_of (fun w hw => ?_)
  unfold va_wsO at hw
  simp only [List.mem_append, List.mem_cons, List.not_mem_nil, or_false] at hw
  rcases hw with (rfl | rfl | rfl | rfl | rfl | rfl) | rfl | hw
  · exact h1
  · exact h2
  · exact h3
  · exact h6
  · exact h7
  · exact h4
  · exact h5
  · exact hw
theorem mem_wsSU {own : String} {idx : Nat} {y : MethodName} {cd : Cond} (h1 : Cond.methodLink own idx y ∈ wU) (h2 : Cond.sameMethod y.cls y.cls y.name y.desc ∈ wU) (h3 : Cond.superclass own y.cls ∈ wU) (h7 : Cond.instanceMethod y ∈ wU) (h4 : Cond.initialized y.cls ∈ wU) (h5 : cd ∈ wU) : GoodIn wU (va_wsSU own idx y (cd :: wU)) := by
  refine gi_of (fun w hw => ?_)
  unfold va_wsSU at hw
  simp only [List.mem_append, List.mem_cons, List.not_mem_nil, or_false] at hw
  rcases hw with (rfl | rfl | rfl | rfl | rfl) | rfl | hw
  · exact h1
  · exact h2
  · exact h3
  · exact h7
  · exact h4
  · exact h5
  · exact hw
theorem mem_codeU {cd : Cond} (h5 : cd ∈ wU) : GoodIn wU (cd :: wU) := gi_of (fun w hw => by
  rcases List.mem_cons.mp hw with rfl | hw
  · exact h5
  · exact hw)
/-- what a call asks of the callee's name -/
def YOk (y : MethodName) (n : Nat) : Prop := y.cls ≠ "java/lang/invoke/MethodHandle" ∧ y.cls ≠ "java/lang/invoke/VarHandle" ∧ (parseMethodDescriptor y.desc).map (fun d => d.parameters.length) = some n
theorem fr_free {A0 : Nat → Prop} {pre mid post : va_W} {H0 H : Heap} {locs : List Loc} (hD : va_D A0 (pre ++ (mid ++ post))) (hS : va_S A0 H0 H locs) (hA : ∀ q, H0.size ≤ q → A0 q) : ∀ q, va_A mid H.size q → A0 q := by
  intro q h
  rcases h with ⟨k, e, h⟩ | h
  · obtain ⟨i, hi⟩ := List.getElem?_of_mem (List.mem_append_right pre (List.mem_append_left post (List.mem_of_getElem? h)))
    exact hD.2 i (q, e) hi
  · exact hA q (Nat.le_trans hS.1 h)
theorem fr_ne {A0 : Nat → Prop} {pre mid post : va_W} (hD : va_D A0 (pre ++ (mid ++ post))) {x y : Nat × va_E} (hx : x ∈ pre ∨ x ∈ post) (hy : y ∈ mid) : x.1 ≠ y.1 := by
  intro h
  obtain ⟨j, hj⟩ := List.getElem?_of_mem hy
  have hjl := (List.getElem?_eq_some_iff.mp hj).1
  have h2 : (pre ++ (mid ++ post))[pre.length + j]? = some y := by
    rw [List.getElem?_append_right (by omega), Nat.add_sub_cancel_left, List.getElem?_append_left hjl]
    exact hj
  rcases hx with hx | hx
  · obtain ⟨i, hi⟩ := List.getElem?_of_mem hx
    have hil := (List.getElem?_eq_some_iff.mp hi).1
    have := hD.1 i (pre.length + j) x y (by rw [List.getElem?_append_left hil]; exact hi) h2 h
    omega
  · obtain ⟨i, hi⟩ := List.getElem?_of_mem hx
    have := hD.1 (pre.length + (mid.length + i)) (pre.length + j) x y (by rw [List.getElem?_append_right (by omega), Nat.add_sub_cancel_left, List.getElem?_append_right (by omega), Nat.add_sub_cancel_left]; exact hi) h2 h
    omega
theorem fr_join {A0 : Nat → Prop} {D : va_G} {cl : List vw_C} {pre mid post w1 : va_W} {H H1 : Heap} (hP : va_P D cl (pre ++ (mid ++ post)) H) (hD : va_D A0 (pre ++ (mid ++ post)))
    (hk : ∀ q : Nat, q < H.size → ¬ va_A mid H.size q → H1[q]? = H[q]?) (hF : ∀ q, va_A mid H.size q → A0 q) (hP1 : va_P D cl w1 H1) (hD1 : va_D (va_A mid H.size) w1) : va_P D cl (pre ++ (w1 ++ post)) H1 ∧ va_D A0 (pre ++ (w1 ++ post)) := by
  have lt : ∀ x : Nat × va_E, x ∈ pre ∨ x ∈ post → x.1 < H.size ∧ ¬ va_A mid H.size x.1 ∧ va_at D cl x H := by
    intro x hx
    have hm : x ∈ pre ++ (mid ++ post) := by
      rcases hx with h | h
      · exact List.mem_append_left _ h
      · exact List.mem_append_right _ (List.mem_append_right _ h)
    obtain ⟨i, hi⟩ := List.getElem?_of_mem hm
    have hat := hP i x hi
    refine ⟨hat.lt, fun h => ?_, hat⟩
    rcases h with ⟨k, e, h⟩ | h
    · exact fr_ne hD hx (List.mem_of_getElem? h) rfl
    · have := hat.lt
      omega
  have kp : ∀ x : Nat × va_E, x ∈ pre ∨ x ∈ post → va_at D cl x H1 := fun x hx => (lt x hx).2.2.kept (hk x.1 (lt x hx).1 (lt x hx).2.1)
  have pp : va_P D cl pre H1 := fun k q h => kp q (Or.inl (List.mem_of_getElem? h))
  have pq : va_P D cl post H1 := fun k q h => kp q (Or.inr (List.mem_of_getElem? h))
  have ne1 : ∀ x y : Nat × va_E, x ∈ pre ∨ x ∈ post → y ∈ w1 → x.1 ≠ y.1 := by
    intro x y hx hy h
    obtain ⟨j, hj⟩ := List.getElem?_of_mem hy
    exact (lt x hx).2.1 (h ▸ hD1.2 j y hj)
  have dpre : va_D A0 pre := ⟨fun i j x y hi hj e => hD.1 i j x y (by rw [List.getElem?_append_left (List.getElem?_eq_some_iff.mp hi).1]; exact hi) (by rw [List.getElem?_append_left (List.getElem?_eq_some_iff.mp hj).1]; exact hj) e, fun k q h => by
    obtain ⟨i, hi⟩ := List.getElem?_of_mem (List.mem_append_left (mid ++ post) (List.mem_of_getElem? h))
    exact hD.2 i q hi⟩
  have at3 : ∀ (i : Nat) (x : Nat × va_E), post[i]? = some x → (pre ++ (mid ++ post))[pre.length + (mid.length + i)]? = some x := fun i x h => by
    rw [List.getElem?_append_right (by omega), Nat.add_sub_cancel_left, List.getElem?_append_right (by omega), Nat.add_sub_cancel_left]
    exact h
  have dpost : va_D A0 post := ⟨fun i j x y hi hj e => by
    have := hD.1 _ _ x y (at3 i x hi) (at3 j y hj) e
    omega, fun k q h => hD.2 _ q (at3 k q h)⟩
  have dmid : va_D A0 w1 := hD1.weaken (fun k q _ h => hF q.1 h)
  refine ⟨va_P.app pp (va_P.app hP1 pq), va_D.app dpre (va_D.app dmid dpost (fun i j x y hx hy h => ne1 y x (Or.inr (List.mem_of_getElem? hy)) (List.mem_of_getElem? hx) h.symm)) (fun i j x y hx hy h => ?_)⟩
  rcases List.mem_append.mp (List.mem_of_getElem? hy) with hy | hy
  · exact ne1 x y (Or.inl (List.mem_of_getElem? hx)) hy h
  · obtain ⟨i2, hi2⟩ := List.getElem?_of_mem hy
    have := hD.1 i _ x y (by rw [List.getElem?_append_left (List.getElem?_eq_some_iff.mp hx).1]; exact hx) (at3 i2 y hi2) h
    have := (List.getElem?_eq_some_iff.mp hx).1
    omega
section BOXC
variable {X : Cx} {cc : ByteArray} {nL ce sl pc : Nat} {own : String} {lv lv' : List (Nat × Value)} {st st0 : List Value} {ws : va_W} {dX mcX msX : Nat} {retX : Option FieldType} {PostX : Option Value → va_W → Prop}
theorem g_run {mc ms : Nat} {pre mid post : va_W} {Post : Option Value → va_W → Prop} {aa : Array Value} (hX : Ok X cc nL own)
    (hr : ∀ (H : Heap) (locs : List Loc) (ls : Array Slot), va_P X.E.D vwCl (pre ++ (mid ++ post)) H → va_D X.A (pre ++ (mid ++ post)) → va_S X.A X.s.heap H locs → lv_has ls nL lv → va_Run X.p X.l X.e X.R X.s X.m X.args X.below X.meth X.c H locs ce sl mc ms (F0 X.m pc ls st0) st (QcOf X.E (va_A mid H.size) Post aa) (va_A mid H.size))
    (kk : ∀ rv ws', Post rv ws' → G X nL (ce + mc) (sl + ms) (pc + 3) lv (rv.toList ++ st) (pre ++ (ws' ++ post))) : G X nL ce sl pc lv st0 (pre ++ (mid ++ post)) := by
  intro H locs ls hP hD hS hl T hT XX
  have hF := fr_free hD hS hX.hA
  obtain ⟨v, st₀, t, T', L, h0, X', hL, e1, e2, ⟨⟨rv, ws', hpost, hoc, hP1, hD1⟩, hz, hk⟩, stp⟩ := hr H locs ls hP hD hS hl T hT XX
  obtain rfl : v = rv := by cases hoc; rfl
  rw [h0] at hz hk
  obtain ⟨hP2, hD2⟩ := fr_join hP hD hk hF hP1 hD1
  rw [← e1] at hP2
  have hS2 : va_S X.A X.s.heap T'.heap (locs ++ L) := ⟨Nat.le_trans hS.1 (by rw [e1]; exact hz), fun q h1 h2 => by rw [e1, hk q (Nat.lt_of_lt_of_le h1 hS.1) (fun z => h2 (hF q z))]; exact hS.2.1 q h1 h2, fun q hq => by
    rcases List.mem_append.mp hq with h | h
    · exact hS.2.2 q h
    · exact hF _ (hL q h)⟩
  obtain ⟨t2, a1, b1⟩ := kk v ws' hpost T'.heap (locs ++ L) ls hP2 hD2 hS2 hl T' rfl X'
  exact ⟨t2, stp t2 a1, b1⟩
/-- the receiver's cell -/
def Recv (X : Cx) (C : String) (b : Nat) (W : va_W) : Prop := ∃ (ci : Nat) (fs : List Value) (T : u_T) (N : Nat), vwCl[ci]? = some (C, T, N) ∧ ((b, .inr (ci, fs)) ∈ W ∨ (b, .inr (ci, fs)) ∈ X.ro)
theorem Recv.of {X : Cx} {C : String} {b : Nat} {W : va_W} (k ci : Nat) {fs : List Value} {T : u_T} {N : Nat} (hk : W[k]? = some (b, .inr (ci, fs))) (hc : vwCl[ci]? = some (C, T, N)) : Recv X C b W := ⟨ci, fs, T, N, hc, Or.inl (List.mem_of_getElem? hk)⟩
theorem Recv.ro {X : Cx} {C : String} {b : Nat} {W : va_W} (ci : Nat) {fs : List Value} {T : u_T} {N : Nat} (hk : (b, .inr (ci, fs)) ∈ X.ro) (hc : vwCl[ci]? = some (C, T, N)) : Recv X C b W := ⟨ci, fs, T, N, hc, Or.inr hk⟩
theorem Recv.cell (hX : Ok X cc nL own) {C : String} {b : Nat} {W : va_W} (h : Recv X C b W) {H : Heap} {locs : List Loc} (hP : va_P X.E.D vwCl W H) (hS : va_S X.A X.s.heap H locs) : ∃ cell : Cell, H[b]? = some cell ∧ cell.vm.isStatics = false ∧ X.s.vm.findClass C = some cell.cls := by
  obtain ⟨ci, fs, T, N, hc, h | h⟩ := h
  · obtain ⟨i, hi⟩ := List.getElem?_of_mem h
    exact va_recv hX.hK hP hc hi
  · obtain ⟨i, hi⟩ := List.getElem?_of_mem h
    exact va_recv hX.hK (hX.roP hS) hc hi
theorem pc_blind {E : En} {ro ws : va_W} {av : List Value} {sz : Nat} : FrameBlind (va_Pc av (fun U => U.heap.size = sz ∧ va_P E.D vwCl ws U.heap ∧ va_D (fun _ => True) ws ∧ EnOk E U ∧ RoOK E ro (va_A ws sz) U U.heap)) :=
  fun a U g mk q => ⟨q.1, q.2.1, q.2.2.1, q.2.2.2.1, q.2.2.2.2.1.call, RoOK.moved (u := U) (U := U.calling g mk a) (Vm.Alike.refl U.vm) q.2.2.2.2.2⟩
theorem pc_at (hX : Ok X cc nL own) {roC pre mid post : va_W} {av : List Value} (hro : ∀ q ∈ roC, q ∈ X.ro) {H : Heap} {locs : List Loc} (hP : va_P X.E.D vwCl (pre ++ (mid ++ post)) H) (hD : va_D X.A (pre ++ (mid ++ post))) (hS : va_S X.A X.s.heap H locs) :
    ∀ U : State, U.heap = H → X.s.WarmedH U.vm → va_Pc av (fun U => U.heap.size = H.size ∧ va_P X.E.D vwCl mid U.heap ∧ va_D (fun _ => True) mid ∧ EnOk X.E U ∧ RoOK X.E roC (va_A mid H.size) U U.heap) av.toArray U := by
  intro U hU hW
  have hF := fr_free hD hS hX.hA
  have h1 : RoOK X.E roC (va_A mid H.size) U H := (((hX.hRo.kept hS.2.1).narrow hF).sub hro).moved hW.alike
  refine ⟨rfl, by rw [hU], ?_, ?_, hX.hE.warm hW, by rw [hU]; exact h1⟩
  · rw [hU]
    intro k q hk
    obtain ⟨i, hi⟩ := List.getElem?_of_mem (List.mem_append_right pre (List.mem_append_left post (List.mem_of_getElem? hk)))
    exact hP i q hi
  · have at2 : ∀ (i : Nat) (x : Nat × va_E), mid[i]? = some x → (pre ++ (mid ++ post))[pre.length + i]? = some x := fun i x h => by
      rw [List.getElem?_append_right (by omega), Nat.add_sub_cancel_left, List.getElem?_append_left (List.getElem?_eq_some_iff.mp h).1]
      exact h
    exact ⟨fun i j x y hi hj e => by
      have := hD.1 _ _ x y (at2 i x hi) (at2 j y hj) e
      omega, fun _ _ _ => trivial⟩
theorem rm_fits {d dY mcY msY nY : Nat} (hR : X.R = rmD d mcX msX) (hd : dY < d) (hn : nY + 19 ≤ 64) : (rmD dY mcY msY).frames + 1 ≤ X.R.frames ∧ 8 + (nY + 11) + (rmD dY mcY msY).locals ≤ X.R.locals := by
  rw [hR]
  simp only [rmD]
  omega
/-- invokevirtual of the receiver's class's own method -/
def KwV (own : String) (idx : Nat) (C : String) (y : MethodName) (ccY : ByteArray) (nY : Nat) (ret : Option FieldType) (n : Nat) : Prop :=
  GoodIn wU (wsV own idx C y (.code y ccY nY ret :: wU)) ∧ y.cls = C ∧ YOk y n ∧ nY + 19 ≤ 64
theorem g_callV {y : MethodName} {ccY : ByteArray} {nY idx n d mc ms : Nat} {ret : Option FieldType} {C : String} {roC pre mid post : va_W} {Post : Option Value → va_W → Prop} {b : Nat} (As : List Value) (hX : Ok X cc nL own) (hq : Rq X dX mcX msX retX PostX) (hw : KwV own idx C y ccY nY ret n)
    (hM : CP X.l X.E y ccY nY ret d mc ms roC (.ref b :: As) mid Post) (hro : ∀ q ∈ roC, q ∈ X.ro) (hd : d < dX) (hc : ce + mc ≤ mcX) (hs : sl + ms ≤ msX) (hn : As.length = n) (hrv : Recv X C b (pre ++ (mid ++ post))) (hst : As.reverse ++ .ref b :: st = st0) (hcat : (st.map fun v => v.category).sum ≤ 8) (hdg : decode cc pc = .ok (.invokevirtual idx, 3))
    (kk : ∀ rv ws', Post rv ws' → G X nL (ce + mc) (sl + ms) (pc + 3) lv (rv.toList ++ st) (pre ++ (ws' ++ post))) : G X nL ce sl pc lv st0 (pre ++ (mid ++ post)) := by
  refine g_run (aa := (Value.ref b :: As).toArray) hX (fun H locs ls hP hD hS hl => ?_) kk
  exact va_runV (As := As) (rest := st) ⟨hX.hx, hX.hb, hX.hml, hX.hown, hX.hts⟩ (hM H.size) (cwV n hX.hts hw.1 rfl rfl rfl ⟨hw.2.1, hw.2.2.1⟩ (rm_fits hq.1 hd hw.2.2.2)) ⟨pc_blind, hrv.cell hX hP hS, pc_at hX hro hP hD hS⟩ rfl hn hl.1 hst.symm (lv_room hcat) hdg (by rw [hq.1]; exact ⟨hc, hs⟩)
/-- invokestatic -/
def KwS (own : String) (idx : Nat) (y : MethodName) (ccY : ByteArray) (nY : Nat) (ret : Option FieldType) (n : Nat) : Prop :=
  GoodIn wU (va_wsS own idx y (.code y ccY nY ret :: wU)) ∧ YOk y n ∧ nY + 19 ≤ 64
theorem g_callS {y : MethodName} {ccY : ByteArray} {nY idx n d mc ms : Nat} {ret : Option FieldType} {roC pre mid post : va_W} {Post : Option Value → va_W → Prop} (As : List Value) (hX : Ok X cc nL own) (hq : Rq X dX mcX msX retX PostX) (hw : KwS own idx y ccY nY ret n)
    (hM : CP X.l X.E y ccY nY ret d mc ms roC As mid Post) (hro : ∀ q ∈ roC, q ∈ X.ro) (hd : d < dX) (hc : ce + mc ≤ mcX) (hs : sl + ms ≤ msX) (hn : As.length = n) (hst : As.reverse ++ st = st0) (hcat : (st.map fun v => v.category).sum ≤ 8) (hdg : decode cc pc = .ok (.invokestatic idx, 3))
    (kk : ∀ rv ws', Post rv ws' → G X nL (ce + mc) (sl + ms) (pc + 3) lv (rv.toList ++ st) (pre ++ (ws' ++ post))) : G X nL ce sl pc lv st0 (pre ++ (mid ++ post)) := by
  refine g_run (aa := As.toArray) hX (fun H locs ls hP hD hS hl => ?_) kk
  exact va_runS (As := As) (rest := st) ⟨hX.hx, hX.hb, hX.hml, hX.hown, hX.hts⟩ (hM H.size) (va_cwS n hX.hts hw.1 rfl rfl rfl hw.2.1 (rm_fits hq.1 hd hw.2.2)) ⟨pc_blind, pc_at hX hro hP hD hS⟩ rfl hn hl.1 hst.symm (lv_room hcat) hdg (by rw [hq.1]; exact ⟨hc, hs⟩)
/-- invokestatic of a nest mate's private method -/
def KwN (own : String) (idx : Nat) (y : MethodName) (host : String) (ccY : ByteArray) (nY : Nat) (ret : Option FieldType) (n : Nat) : Prop :=
  (own, idx, y, host) ∈ nestQ ∧ Cond.static y ∈ wU ∧ Cond.initialized y.cls ∈ wU ∧ Cond.code y ccY nY ret ∈ wU ∧ YOk y n ∧ nY + 19 ≤ 64
theorem g_callN {y : MethodName} {ccY : ByteArray} {nY idx n d mc ms : Nat} {ret : Option FieldType} {host : String} {roC pre mid post : va_W} {Post : Option Value → va_W → Prop} (As : List Value) (hX : Ok X cc nL own) (hq : Rq X dX mcX msX retX PostX) (hw : KwN own idx y host ccY nY ret n)
    (hM : CP X.l X.E y ccY nY ret d mc ms roC As mid Post) (hro : ∀ q ∈ roC, q ∈ X.ro) (hd : d < dX) (hc : ce + mc ≤ mcX) (hs : sl + ms ≤ msX) (hn : As.length = n) (hst : As.reverse ++ st = st0) (hcat : (st.map fun v => v.category).sum ≤ 8) (hdg : decode cc pc = .ok (.invokestatic idx, 3))
    (kk : ∀ rv ws', Post rv ws' → G X nL (ce + mc) (sl + ms) (pc + 3) lv (rv.toList ++ st) (pre ++ (ws' ++ post))) : G X nL ce sl pc lv st0 (pre ++ (mid ++ post)) := by
  refine g_run (aa := As.toArray) hX (fun H locs ls hP hD hS hl => ?_) kk
  exact va_runSN (As := As) (rest := st) ⟨hX.hx, hX.hb, hX.hml, hX.hown, hX.hts⟩ (hM H.size) ⟨va_cnB n hX.hts (mem_codeU hw.2.2.2.1) rfl rfl rfl (hX.hE.2.1 _ hw.1) (hX.hts _ hw.2.2.1) hw.2.2.2.2.1 (rm_fits hq.1 hd hw.2.2.2.2.2), hX.hts _ hw.2.1, trivial⟩ ⟨pc_blind, pc_at hX hro hP hD hS⟩ rfl hn hl.1 hst.symm (lv_room hcat) hdg (by rw [hq.1]; exact ⟨hc, hs⟩)
/-- invokespecial of a constructor -/
def KwI (own : String) (idx : Nat) (y : MethodName) (ccY : ByteArray) (nY : Nat) (n : Nat) : Prop :=
  Cond.methodLink own idx y ∈ wU ∧ Cond.instanceMethod y ∈ wU ∧ Cond.initialized y.cls ∈ wU ∧ Cond.code y ccY nY none ∈ wU ∧ y.name = "<init>" ∧ YOk y n ∧ nY + 19 ≤ 64
theorem g_callI {y : MethodName} {ccY : ByteArray} {nY idx n d mc ms : Nat} {roC pre mid post : va_W} {Post : Option Value → va_W → Prop} {b : Nat} (As : List Value) (hX : Ok X cc nL own) (hq : Rq X dX mcX msX retX PostX) (hw : KwI own idx y ccY nY n)
    (hM : CP X.l X.E y ccY nY none d mc ms roC (.ref b :: As) mid Post) (hro : ∀ q ∈ roC, q ∈ X.ro) (hd : d < dX) (hc : ce + mc ≤ mcX) (hs : sl + ms ≤ msX) (hn : As.length = n) (hst : As.reverse ++ .ref b :: st = st0) (hcat : (st.map fun v => v.category).sum ≤ 8) (hdg : decode cc pc = .ok (.invokespecial idx, 3))
    (kk : ∀ rv ws', Post rv ws' → G X nL (ce + mc) (sl + ms) (pc + 3) lv (rv.toList ++ st) (pre ++ (ws' ++ post))) : G X nL ce sl pc lv st0 (pre ++ (mid ++ post)) := by
  refine g_run (aa := (Value.ref b :: As).toArray) hX (fun H locs ls hP hD hS hl => ?_) kk
  exact va_runI (As := As) (rest := st) ⟨hX.hx, hX.hb, hX.hml, hX.hown, hX.hts⟩ (hM H.size) (cwI n hX.hts (mem_codeU hw.2.2.2.1) rfl rfl rfl (hX.hts _ hw.2.2.1) (hX.hts _ hw.1) (hX.hts _ hw.2.1) hw.2.2.2.2.1 hw.2.2.2.2.2.1 (rm_fits hq.1 hd hw.2.2.2.2.2.2)) ⟨pc_blind, pc_at hX hro hP hD hS⟩ rfl hn hl.1 hst.symm (lv_room hcat) hdg (by rw [hq.1]; exact ⟨hc, hs⟩)
/-- invokespecial of a nest mate's private constructor -/
def KwIN (own : String) (idx : Nat) (y : MethodName) (host : String) (ccY : ByteArray) (nY : Nat) (n : Nat) : Prop :=
  (own, idx, y, host) ∈ nestQ ∧ Cond.instanceMethod y ∈ wU ∧ Cond.initialized y.cls ∈ wU ∧ Cond.code y ccY nY none ∈ wU ∧ y.name = "<init>" ∧ YOk y n ∧ nY + 19 ≤ 64
theorem g_callIN {y : MethodName} {ccY : ByteArray} {nY idx n d mc ms : Nat} {host : String} {roC pre mid post : va_W} {Post : Option Value → va_W → Prop} {b : Nat} (As : List Value) (hX : Ok X cc nL own) (hq : Rq X dX mcX msX retX PostX) (hw : KwIN own idx y host ccY nY n)
    (hM : CP X.l X.E y ccY nY none d mc ms roC (.ref b :: As) mid Post) (hro : ∀ q ∈ roC, q ∈ X.ro) (hd : d < dX) (hc : ce + mc ≤ mcX) (hs : sl + ms ≤ msX) (hn : As.length = n) (hst : As.reverse ++ .ref b :: st = st0) (hcat : (st.map fun v => v.category).sum ≤ 8) (hdg : decode cc pc = .ok (.invokespecial idx, 3))
    (kk : ∀ rv ws', Post rv ws' → G X nL (ce + mc) (sl + ms) (pc + 3) lv (rv.toList ++ st) (pre ++ (ws' ++ post))) : G X nL ce sl pc lv st0 (pre ++ (mid ++ post)) := by
  refine g_run (aa := (Value.ref b :: As).toArray) hX (fun H locs ls hP hD hS hl => ?_) kk
  exact va_runIN (As := As) (rest := st) ⟨hX.hx, hX.hb, hX.hml, hX.hown, hX.hts⟩ (hM H.size) ⟨va_cnB n hX.hts (mem_codeU hw.2.2.2.1) rfl rfl rfl (hX.hE.2.1 _ hw.1) (hX.hts _ hw.2.2.1) hw.2.2.2.2.2.1 (rm_fits hq.1 hd hw.2.2.2.2.2.2), hw.2.2.2.2.1, hX.hts _ hw.2.1⟩ ⟨pc_blind, pc_at hX hro hP hD hS⟩ rfl hn hl.1 hst.symm (lv_room hcat) hdg (by rw [hq.1]; exact ⟨hc, hs⟩)
/-- invokevirtual where the receiver's class may have a method of its own: x is named, y is run -/
def KwO (own : String) (idx : Nat) (C owner : String) (x y : MethodName) (ccY : ByteArray) (nY : Nat) (ret : Option FieldType) (n : Nat) : Prop :=
  GoodIn wU (va_wsO own idx C owner x y (.code y ccY nY ret :: wU)) ∧ (∃ b0 m0 r0, Cond.code ⟨owner, x.name, x.desc⟩ b0 m0 r0 ∈ wU) ∧ (owner ≠ "java/lang/invoke/MethodHandle" ∧ owner ≠ "java/lang/invoke/VarHandle" ∧ (parseMethodDescriptor x.desc).map (fun d => d.parameters.length) = some n) ∧ nY + 19 ≤ 64
theorem g_callO {x y : MethodName} {ccY : ByteArray} {nY idx n d mc ms : Nat} {ret : Option FieldType} {C owner : String} {roC pre mid post : va_W} {Post : Option Value → va_W → Prop} {b : Nat} (As : List Value) (hX : Ok X cc nL own) (hq : Rq X dX mcX msX retX PostX) (hw : KwO own idx C owner x y ccY nY ret n)
    (hM : CP X.l X.E y ccY nY ret d mc ms roC (.ref b :: As) mid Post) (hro : ∀ q ∈ roC, q ∈ X.ro) (hd : d < dX) (hc : ce + mc ≤ mcX) (hs : sl + ms ≤ msX) (hn : As.length = n) (hrv : Recv X C b (pre ++ (mid ++ post))) (hst : As.reverse ++ .ref b :: st = st0) (hcat : (st.map fun v => v.category).sum ≤ 8) (hdg : decode cc pc = .ok (.invokevirtual idx, 3))
    (kk : ∀ rv ws', Post rv ws' → G X nL (ce + mc) (sl + ms) (pc + 3) lv (rv.toList ++ st) (pre ++ (ws' ++ post))) : G X nL ce sl pc lv st0 (pre ++ (mid ++ post)) := by
  obtain ⟨hG, ⟨b0, m0, r0, h0⟩, hy, h64⟩ := hw
  refine g_run (aa := (Value.ref b :: As).toArray) hX (fun H locs ls hP hD hS hl => ?_) kk
  exact va_runU (As := As) (rest := st) ⟨hX.hx, hX.hb, hX.hml, hX.hown, hX.hts⟩ (hM H.size) (va_cwO n hX.hts hG rfl rfl rfl h0 hy (rm_fits hq.1 hd h64)) ⟨pc_blind, hrv.cell hX hP hS, pc_at hX hro hP hD hS⟩ rfl hn hl.1 hst.symm (lv_room hcat) hdg (by rw [hq.1]; exact ⟨hc, hs⟩)
/-- invokespecial of a superclass's method -/
def KwSU (own : String) (idx : Nat) (y : MethodName) (ccY : ByteArray) (nY : Nat) (ret : Option FieldType) (n : Nat) : Prop :=
  GoodIn wU (va_wsSU own idx y (.code y ccY nY ret :: wU)) ∧ (y.name ≠ "<init>" ∧ (parseMethodDescriptor y.desc).map (fun d => d.parameters.length) = some n) ∧ nY + 19 ≤ 64
theorem g_callSU {y : MethodName} {ccY : ByteArray} {nY idx n d mc ms : Nat} {ret : Option FieldType} {C : String} {roC pre mid post : va_W} {Post : Option Value → va_W → Prop} {b : Nat} (As : List Value) (hX : Ok X cc nL own) (hq : Rq X dX mcX msX retX PostX) (hw : KwSU own idx y ccY nY ret n)
    (hM : CP X.l X.E y ccY nY ret d mc ms roC (.ref b :: As) mid Post) (hro : ∀ q ∈ roC, q ∈ X.ro) (hd : d < dX) (hc : ce + mc ≤ mcX) (hs : sl + ms ≤ msX) (hn : As.length = n) (hrv : Recv X C b (pre ++ (mid ++ post))) (hst : As.reverse ++ .ref b :: st = st0) (hcat : (st.map fun v => v.category).sum ≤ 8) (hdg : decode cc pc = .ok (.invokespecial idx, 3))
    (kk : ∀ rv ws', Post rv ws' → G X nL (ce + mc) (sl + ms) (pc + 3) lv (rv.toList ++ st) (pre ++ (ws' ++ post))) : G X nL ce sl pc lv st0 (pre ++ (mid ++ post)) := by
  refine g_run (aa := (Value.ref b :: As).toArray) hX (fun H locs ls hP hD hS hl => ?_) kk
  obtain ⟨ci, fs, T0, N0, hci, -⟩ := id hrv
  exact va_runSU (As := As) (rest := st) (hX.hK.1 ci _ hci).2 ⟨hX.hx, hX.hb, hX.hml, hX.hown, hX.hts⟩ (hM H.size) (va_cwSU n hX.hts hw.1 rfl rfl rfl hw.2.1 (rm_fits hq.1 hd hw.2.2)) ⟨pc_blind, hrv.cell hX hP hS, pc_at hX hro hP hD hS⟩ rfl hn hl.1 hst.symm (lv_room hcat) hdg (by rw [hq.1]; exact ⟨hc, hs⟩)
/-! ===== ends ===== -/
theorem g_iret (hX : Ok X cc nL own) (hq : Rq X dX mcX msX (some .int) PostX) (hc : ce ≤ mcX) (hs : sl ≤ msX) {v : Int32} (hp : PostX (some (.int v)) ws) (hdg : decode cc pc = .ok (.ireturn, 1)) : G X nL ce sl pc lv [.int v] ws := by
  intro H locs ls hP hD hS h
  refine W.widen hc hs ?_
  rw [hq.2.2.2]
  exact W.iret hX.hx hX.hb hq.2.1 (fun t ht hW => ⟨⟨_, _, hp, rfl, by rw [ht]; exact hP, hD⟩, hS.F ht⟩) hS.2.2 hdg hq.2.2.1
theorem g_zret (hX : Ok X cc nL own) {ty : FieldType} (hq : Rq X dX mcX msX (some ty) PostX) (hc : ce ≤ mcX) (hs : sl ≤ msX) {v : Int32} (hn : narrow ty (.int v) = .int v) (hp : PostX (some (.int v)) ws) (hdg : decode cc pc = .ok (.ireturn, 1)) : G X nL ce sl pc lv [.int v] ws := by
  intro H locs ls hP hD hS h
  refine W.widen hc hs ?_
  rw [hq.2.2.2]
  exact W.zret hX.hx hX.hb hq.2.1 hn (fun t ht hW => ⟨⟨_, _, hp, rfl, by rw [ht]; exact hP, hD⟩, hS.F ht⟩) hS.2.2 hdg hq.2.2.1
theorem g_vret (hX : Ok X cc nL own) (hq : Rq X dX mcX msX none PostX) (hc : ce ≤ mcX) (hs : sl ≤ msX) (hp : PostX none ws) (hdg : decode cc pc = .ok (.return_, 1)) : G X nL ce sl pc lv [] ws := by
  intro H locs ls hP hD hS h
  refine W.widen hc hs ?_
  rw [hq.2.2.2]
  exact W.vret hX.hx hX.hb hq.2.1 (fun t ht hW => ⟨⟨_, _, hp, rfl, by rw [ht]; exact hP, hD⟩, hS.F ht⟩) hS.2.2 hdg hq.2.2.1
theorem g_aret (hX : Ok X cc nL own) {n : String} (hq : Rq X dX mcX msX (some (.object n)) PostX) (hc : ce ≤ mcX) (hs : sl ≤ msX) {v : Nat} (hp : PostX (some (.ref v)) ws) (hdg : decode cc pc = .ok (.areturn, 1)) : G X nL ce sl pc lv [.ref v] ws := by
  intro H locs ls hP hD hS h
  refine W.widen hc hs ?_
  rw [hq.2.2.2]
  exact W.aret hX.hx hX.hb hq.2.1 (Or.inl ⟨_, rfl⟩) (Or.inr ⟨_, rfl⟩) (fun t ht hW => ⟨⟨_, _, hp, rfl, by rw [ht]; exact hP, hD⟩, hS.F ht⟩) hS.2.2 hdg hq.2.2.1
/-! ===== fields, arrays ===== -/
theorem g_get (hX : Ok X cc nL own) {ref C : String} {T : u_T} {N ci index a : Nat} (hin : ∀ w ∈ u_ws C T N, w ∈ wU) (q0 : Nat) {fs : List Value} (he : ws[q0]? = some (a, .inr (ci, fs))) (hc : vwCl[ci]? = some (C, T, N)) (k : Nat) (hk : k < N) (hlink : Cond.fieldLink own index ref (T k).2.1 (T k).2.2.1 ∈ wU) (hsame : ∀ x, X.s.fieldFound? (T k).1 (T k).2.1 (T k).2.2.1 = some x → X.s.fieldFound? ref (T k).2.1 (T k).2.2.1 = some x) {v : Value} (hv : fs[k]? = some v) (hdg : decode cc pc = .ok (.getfield index, 3))
    (kk : G X nL ce sl (pc + 3) lv (v :: st) ws) : G X nL ce sl pc lv (.ref a :: st) ws :=
  fun H locs ls hP hD hS h => va_get (D := X.E.D) (cl := vwCl) (C := C) (T := T) (N := N) hX.hx hX.hb hX.hts hin hX.hown hX.hK hP q0 he hc k hk (hX.hts _ hlink) hsame hv hdg (kk H locs ls hP hD hS h)
/-- a field of an object that is only read -/
theorem g_getR (hX : Ok X cc nL own) {ref C : String} {T : u_T} {N ci index a : Nat} (hin : ∀ w ∈ u_ws C T N, w ∈ wU) {fs : List Value} (he : (a, .inr (ci, fs)) ∈ X.ro) (hc : vwCl[ci]? = some (C, T, N)) (k : Nat) (hk : k < N) (hlink : Cond.fieldLink own index ref (T k).2.1 (T k).2.2.1 ∈ wU) (hsame : ∀ x, X.s.fieldFound? (T k).1 (T k).2.1 (T k).2.2.1 = some x → X.s.fieldFound? ref (T k).2.1 (T k).2.2.1 = some x) {v : Value} (hv : fs[k]? = some v) (hdg : decode cc pc = .ok (.getfield index, 3))
    (kk : G X nL ce sl (pc + 3) lv (v :: st) ws) : G X nL ce sl pc lv (.ref a :: st) ws := by
  intro H locs ls hP hD hS h
  obtain ⟨i, hi⟩ := List.getElem?_of_mem he
  exact va_get (D := X.E.D) (cl := vwCl) (C := C) (T := T) (N := N) hX.hx hX.hb hX.hts hin hX.hown hX.hK (hX.roP hS) i hi hc k hk (hX.hts _ hlink) hsame hv hdg (kk H locs ls hP hD hS h)
theorem g_put (hX : Ok X cc nL own) {ref C : String} {T : u_T} {N ci index a : Nat} (hin : ∀ w ∈ u_ws C T N, w ∈ wU) (ty0 : Nat → FieldType) (hty : ∀ k, k < N → parseFieldDescriptor (T k).2.2.1 = some (ty0 k)) (hnm : ∀ a, a < N → ∀ b, b < N → a ≠ b → (T a).2.1 ≠ (T b).2.1) (q0 : Nat) {fs : List Value} (he : ws[q0]? = some (a, .inr (ci, fs))) (hc : vwCl[ci]? = some (C, T, N)) (k : Nat) (hk : k < N) (hlink : Cond.fieldLink own index ref (T k).2.1 (T k).2.2.1 ∈ wU) (hsame : ∀ x, X.s.fieldFound? (T k).1 (T k).2.1 (T k).2.2.1 = some x → X.s.fieldFound? ref (T k).2.1 (T k).2.2.1 = some x) (hfin : (T k).2.2.2 = false) {ty : FieldType} {v : Value} (hd : parseFieldDescriptor (T k).2.2.1 = some ty) (hn : narrow ty v = v) (hfit : fits ty v = true) (hl : k < fs.length) (ws' : va_W) (hws : ws.set q0 (a, .inr (ci, fs.set k v)) = ws') (hdg : decode cc pc = .ok (.putfield index, 3))
    (kk : G X nL ce sl (pc + 3) lv st ws') : G X nL ce sl pc lv (v :: .ref a :: st) ws := by
  intro H locs ls hP hD hS h
  exact va_put (D := X.E.D) (cl := vwCl) (C := C) (T := T) (N := N) hX.hx hX.hb hX.hts hin ty0 hty hnm hX.hown hX.hK hP hD hS q0 he hc k hk (hX.hts _ hlink) hsame hfin hd hn hfit hl hdg (fun H1 locs1 hP1 hD1 hS1 => kk H1 locs1 ls (hws ▸ hP1) (hws ▸ hD1) hS1 h)
theorem g_putF (hX : Ok X cc nL own) (hin2 : X.meth.name = "<init>") {ref C : String} {T : u_T} {N ci index a : Nat} (hin : ∀ w ∈ u_ws C T N, w ∈ wU) (ty0 : Nat → FieldType) (hty : ∀ k, k < N → parseFieldDescriptor (T k).2.2.1 = some (ty0 k)) (hnm : ∀ a, a < N → ∀ b, b < N → a ≠ b → (T a).2.1 ≠ (T b).2.1) (q0 : Nat) {fs : List Value} (he : ws[q0]? = some (a, .inr (ci, fs))) (hc : vwCl[ci]? = some (C, T, N)) (k : Nat) (hk : k < N) (hlink : Cond.fieldLink own index ref (T k).2.1 (T k).2.2.1 ∈ wU) (hsame : ∀ x, X.s.fieldFound? (T k).1 (T k).2.1 (T k).2.2.1 = some x → X.s.fieldFound? ref (T k).2.1 (T k).2.2.1 = some x) (hfin : (T k).2.2.2 = true) (hdecl : (T k).1 = own) {ty : FieldType} {v : Value} (hd : parseFieldDescriptor (T k).2.2.1 = some ty) (hn : narrow ty v = v) (hfit : fits ty v = true) (hl : k < fs.length) (ws' : va_W) (hws : ws.set q0 (a, .inr (ci, fs.set k v)) = ws') (hdg : decode cc pc = .ok (.putfield index, 3))
    (kk : G X nL ce sl (pc + 3) lv st ws') : G X nL ce sl pc lv (v :: .ref a :: st) ws := by
  intro H locs ls hP hD hS h
  exact va_putF (D := X.E.D) (cl := vwCl) (C := C) (T := T) (N := N) hX.hx hX.hb hX.hts hin ty0 hty hnm hX.hown hX.hK hP hD hS q0 he hc k hk (hX.hts _ hlink) hsame hfin hin2 hdecl hd hn hfit hl hdg (fun H1 locs1 hP1 hD1 hS1 => kk H1 locs1 ls (hws ▸ hP1) (hws ▸ hD1) hS1 h)
theorem g_iald (hX : Ok X cc nL own) (q0 : Nat) {a n : Nat} {f : Nat → Int32} (ha : ws[q0]? = some (a, .inl (X.E.cI, n, .inl f))) {i : Int32} (hin : vp_in i n) (j : Nat) (hj : i.toNatClampNeg = j) (hdg : decode cc pc = .ok (.iaload, 1)) (kk : G X nL ce sl (pc + 1) lv (.int (f j) :: st) ws) : G X nL ce sl pc lv (.int i :: .ref a :: st) ws :=
  fun H locs ls hP hD hS h => va_iald (D := X.E.D) (cl := vwCl) hX.hx hX.hb hX.hK hP q0 0 ha rfl hin hdg (hj ▸ kk H locs ls hP hD hS h)
theorem g_bald (hX : Ok X cc nL own) (q0 : Nat) {a n : Nat} {f : Nat → Int32} (ha : ws[q0]? = some (a, .inl (X.E.cB, n, .inl f))) {i : Int32} (hin : vp_in i n) (j : Nat) (hj : i.toNatClampNeg = j) (hdg : decode cc pc = .ok (.baload, 1)) (kk : G X nL ce sl (pc + 1) lv (.int (f j) :: st) ws) : G X nL ce sl pc lv (.int i :: .ref a :: st) ws :=
  fun H locs ls hP hD hS h => va_bald (D := X.E.D) (cl := vwCl) hX.hx hX.hb hX.hK hP q0 1 ha rfl hin hdg (hj ▸ kk H locs ls hP hD hS h)
theorem g_iast (hX : Ok X cc nL own) (q0 : Nat) {a n : Nat} {f : Nat → Int32} (ha : ws[q0]? = some (a, .inl (X.E.cI, n, .inl f))) {i x : Int32} (hin : vp_in i n) (j : Nat) (hj : i.toNatClampNeg = j) (ws' : va_W) (hws : ws.set q0 (a, .inl (X.E.cI, n, .inl (upd f j x))) = ws') (hdg : decode cc pc = .ok (.iastore, 1)) (kk : G X nL ce sl (pc + 1) lv st ws') : G X nL ce sl pc lv (.int x :: .int i :: .ref a :: st) ws := by
  subst hj
  intro H locs ls hP hD hS h
  exact va_iast (D := X.E.D) (cl := vwCl) hX.hx hX.hb hX.hK hP hD hS q0 0 ha rfl hin hdg (fun H1 locs1 hP1 hD1 hS1 => kk H1 locs1 ls (hws ▸ hP1) (hws ▸ hD1) hS1 h)
theorem g_bast (hX : Ok X cc nL own) (q0 : Nat) {a n : Nat} {f : Nat → Int32} (ha : ws[q0]? = some (a, .inl (X.E.cB, n, .inl f))) {i x : Int32} (hin : vp_in i n) (j : Nat) (hj : i.toNatClampNeg = j) (ws' : va_W) (hws : ws.set q0 (a, .inl (X.E.cB, n, .inl (upd f j x.toInt8.toInt32))) = ws') (hdg : decode cc pc = .ok (.bastore, 1)) (kk : G X nL ce sl (pc + 1) lv st ws') : G X nL ce sl pc lv (.int x :: .int i :: .ref a :: st) ws := by
  subst hj
  intro H locs ls hP hD hS h
  exact va_bast (D := X.E.D) (cl := vwCl) hX.hx hX.hb hX.hK hP hD hS q0 1 ha rfl hin hdg (fun H1 locs1 hP1 hD1 hS1 => kk H1 locs1 ls (by rw [vp_nar_byte] at hP1; exact hws ▸ hP1) (by rw [vp_nar_byte] at hD1; exact hws ▸ hD1) hS1 h)
theorem g_aald (hX : Ok X cc nL own) (q0 t0 : Nat) {a n : Nat} {cA : ClassId} {C : String} {f : Nat → Option Nat} (ha : ws[q0]? = some (a, .inl (cA, n, .inr (.inr (.inr (.inr f)))))) (ht : X.E.tys[t0]? = some (cA, .object C)) {i : Int32} (hin : vp_in i n) {v : Nat} (hv : f i.toNatClampNeg = some v) (hdg : decode cc pc = .ok (.aaload, 1)) (kk : G X nL ce sl (pc + 1) lv (.ref v :: st) ws) : G X nL ce sl pc lv (.int i :: .ref a :: st) ws :=
  fun H locs ls hP hD hS h => va_aldq (D := X.E.D) (cl := vwCl) hX.hx hX.hb hX.hK hP q0 t0 ha ht hin hdg (by rw [hv]; exact kk H locs ls hP hD hS h)
theorem g_alen (hX : Ok X cc nL own) (q0 t0 : Nat) {a : Nat} {cA : ClassId} {x : vp_A} (ha : ws[q0]? = some (a, .inl (cA, x))) {ty : FieldType} (ht : X.E.tys[t0]? = some (cA, ty)) {v : Int32} (hv : Int32.ofNat x.1 = v) (hdg : decode cc pc = .ok (.arraylength, 1)) (kk : G X nL ce sl (pc + 1) lv (.int v :: st) ws) : G X nL ce sl pc lv (.ref a :: st) ws :=
  fun H locs ls hP hD hS h => va_alen (D := X.E.D) (cl := vwCl) hX.hx hX.hb hX.hK hP q0 t0 ha ht hv hdg (kk H locs ls hP hD hS h)
/-! ===== Math.min, Math.max ===== -/
def KwM (own : String) (idx : Nat) (y : MethodName) (b : ByteArray) : Prop := Cond.methodLink own idx y ∈ wU ∧ Cond.static y ∈ wU ∧ Cond.initialized "java/lang/Math" ∈ wU ∧ Cond.code y b 2 (some .int) ∈ wU
theorem g_min (hX : Ok X cc nL own) (hq : Rq X dX mcX msX retX PostX) {idx : Nat} (hw : KwM own idx Lib.Math.min.name Lib.Math.min.code) (hd : 0 < dX) (hc : ce ≤ mcX) (hs : sl ≤ msX) (hcat : (st.map fun v => v.category).sum ≤ 8) {x y : Int32} (hdg : decode cc pc = .ok (.invokestatic idx, 3)) (kk : G X nL ce sl (pc + 3) lv (.int (if y < x then y else x) :: st) ws) : G X nL ce sl pc lv (.int y :: .int x :: st) ws :=
  fun H locs ls hP hD hS h => va_mmin hX.hx hX.hb (by rw [hX.hml]; exact h.1.symm) hX.hown (hX.hts _ hw.1) (hX.hts _ hw.2.1) (hX.hts _ hw.2.2.1) (hX.hts _ hw.2.2.2) (by rw [hq.1]; exact hd) (by rw [hq.1]; simp only [rmD]; omega) (by rw [hq.1]; exact hc) (by rw [hq.1]; exact hs) hdg (kk H locs ls hP hD hS h)
theorem g_max (hX : Ok X cc nL own) (hq : Rq X dX mcX msX retX PostX) {idx : Nat} (hw : KwM own idx Lib.Math.max.name Lib.Math.max.code) (hd : 0 < dX) (hc : ce ≤ mcX) (hs : sl ≤ msX) (hcat : (st.map fun v => v.category).sum ≤ 8) {x y : Int32} (hdg : decode cc pc = .ok (.invokestatic idx, 3)) (kk : G X nL ce sl (pc + 3) lv (.int (if x < y then y else x) :: st) ws) : G X nL ce sl pc lv (.int y :: .int x :: st) ws :=
  fun H locs ls hP hD hS h => va_mmax hX.hx hX.hb (by rw [hX.hml]; exact h.1.symm) hX.hown (hX.hts _ hw.1) (hX.hts _ hw.2.1) (hX.hts _ hw.2.2.1) (hX.hts _ hw.2.2.2) (by rw [hq.1]; exact hd) (by rw [hq.1]; simp only [rmD]; omega) (by rw [hq.1]; exact hc) (by rw [hq.1]; exact hs) hdg (kk H locs ls hP hD hS h)
end BOXC
/-- a class's field words -/
theorem u_inU {C : String} {T : u_T} {N : Nat} (h : ∀ k, k < N → u_lay C T k ∈ wU) : ∀ w ∈ u_ws C T N, w ∈ wU := by
  intro w hw
  obtain ⟨k, hk, rfl⟩ := List.mem_map.mp hw
  exact h k (List.mem_range.mp hk)
