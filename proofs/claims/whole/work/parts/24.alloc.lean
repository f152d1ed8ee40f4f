/-! ===== new cells ===== -/
section BOXN
variable {X : Cx} {cc : ByteArray} {nL ce sl pc : Nat} {own : String} {lv : List (Nat × Value)} {st : List Value} {ws : va_W} {dX mcX msX : Nat} {retX : Option FieldType} {PostX : Option Value → va_W → Prop}
theorem Rq.cl (hq : Rq X dX mcX msX retX PostX) : X.R.cells = mcX ∧ X.R.slots = msX ∧ X.R.frames = dX ∧ X.R.locals = 64 * dX := by rw [hq.1]; exact ⟨rfl, rfl, rfl, rfl⟩
theorem g_new (hX : Ok X cc nL own) (hq : Rq X dX mcX msX retX PostX) {C : String} {T : u_T} {N ci index : Nat} (hin : ∀ w ∈ u_ws C T N, w ∈ wU) (ty : Nat → FieldType) (hty : ∀ k, k < N → parseFieldDescriptor (T k).2.2.1 = some (ty k)) (hcl : Cond.classLink own index C ∈ wU) (hinst : Cond.instantiable C N ∈ wU) (hini : Cond.initialized C ∈ wU) (hc : vwCl[ci]? = some (C, T, N)) {fs : List Value} (hfs : ∀ j, j < N → defaultValue (ty j) = vp_V fs j) (h1 : ce + 1 ≤ mcX) (h2 : sl + N ≤ msX) (hdg : decode cc pc = .ok (.new index, 3))
    (kk : ∀ q : Nat, G X nL (ce + 1) (sl + N) (pc + 3) lv (.ref q :: st) (ws ++ [(q, .inr (ci, fs))])) : G X nL ce sl pc lv st ws :=
  fun H locs ls hP hD hS h => va_new (D := X.E.D) (cl := vwCl) (C := C) (T := T) (N := N) hX.hx hX.hb hX.hts hin ty hty hX.hown (hX.hts _ hcl) (hX.hts _ hinst) (hX.hts _ hini) hX.hK hP hD hS hX.hA hc hfs (by rw [hq.cl.1]; exact h1) (by rw [hq.cl.2.1]; exact h2) hdg (fun q H1 hP1 hD1 hS1 => kk q H1 locs ls hP1 hD1 hS1 h)
theorem nm_int {s : State} {cA : ClassId} (h : va_RA s cA .int) : s.vm.findClass ("[" ++ FieldType.int.toString) = some cA := h
theorem nm_byte {s : State} {cA : ClassId} (h : va_RA s cA .byte) : s.vm.findClass ("[" ++ FieldType.byte.toString) = some cA := h
theorem g_newI (hX : Ok X cc nL own) (hq : Rq X dX mcX msX retX PostX) (harr : Cond.arrayClass .int ∈ wU) {n : Int32} {N : Nat} (hn : ¬ n < 0) (hN : n.toNatClampNeg = N) (hb : N * 4 ≤ 536870912) (h1 : ce + 1 ≤ mcX) (h2 : sl + N ≤ msX) (hdg : decode cc pc = .ok (.newarray .int, 2))
    (kk : ∀ q : Nat, G X nL (ce + 1) (sl + N) (pc + 2) lv (.ref q :: st) (ws ++ [(q, .inl (X.E.cI, N, .inl (fun _ => 0)))])) : G X nL ce sl pc lv (.int n :: st) ws :=
  fun H locs ls hP hD hS h => va_newa (D := X.E.D) (cl := vwCl) (atype := .int) (ty := .int) (a0 := (N, .inl (fun _ => 0))) hX.hx hX.hb (hX.hts _ harr) rfl hX.hK hP hD hS hX.hA (fun cA => vp_cell_i cA N (fun _ => 0)) hn hN hb (by rw [hq.cl.1]; exact h1) (by rw [hq.cl.2.1]; exact h2) hdg (fun q cA H1 hK1 hP1 hD1 hS1 => by
    have e1 := nm_int (hK1.2 X.E.tys.length (cA, .int) (by rw [List.getElem?_append_right (Nat.le_refl _), Nat.sub_self]; rfl)).2
    have e2 := nm_int (hX.hK.2 0 (X.E.cI, .int) rfl).2
    have e3 : cA = X.E.cI := Option.some.inj (e1.symm.trans e2)
    subst e3
    exact kk q H1 locs ls hP1 hD1 hS1 h)
theorem g_newB (hX : Ok X cc nL own) (hq : Rq X dX mcX msX retX PostX) (harr : Cond.arrayClass .byte ∈ wU) {n : Int32} {N : Nat} (hn : ¬ n < 0) (hN : n.toNatClampNeg = N) (hb : N * 1 ≤ 536870912) (h1 : ce + 1 ≤ mcX) (h2 : sl + N ≤ msX) (hdg : decode cc pc = .ok (.newarray .byte, 2))
    (kk : ∀ q : Nat, G X nL (ce + 1) (sl + N) (pc + 2) lv (.ref q :: st) (ws ++ [(q, .inl (X.E.cB, N, .inl (fun _ => 0)))])) : G X nL ce sl pc lv (.int n :: st) ws :=
  fun H locs ls hP hD hS h => va_newa (D := X.E.D) (cl := vwCl) (atype := .byte) (ty := .byte) (a0 := (N, .inl (fun _ => 0))) hX.hx hX.hb (hX.hts _ harr) rfl hX.hK hP hD hS hX.hA (fun cA => vp_cell_i cA N (fun _ => 0)) hn hN hb (by rw [hq.cl.1]; exact h1) (by rw [hq.cl.2.1]; exact h2) hdg (fun q cA H1 hK1 hP1 hD1 hS1 => by
    have e1 := nm_byte (hK1.2 X.E.tys.length (cA, .byte) (by rw [List.getElem?_append_right (Nat.le_refl _), Nat.sub_self]; rfl)).2
    have e2 := nm_byte (hX.hK.2 1 (X.E.cB, .byte) rfl).2
    have e3 : cA = X.E.cB := Option.some.inj (e1.symm.trans e2)
    subst e3
    exact kk q H1 locs ls hP1 hD1 hS1 h)
theorem nm_obj {s : State} {cA : ClassId} {C : String} (h : va_RA s cA (.object C)) : s.vm.findClass ("[" ++ (FieldType.object C).toString) = some cA := by
  obtain ⟨kA, comp, -, -, -, h4⟩ := h
  exact h4
theorem g_newQ (hX : Ok X cc nL own) (hq : Rq X dX mcX msX retX PostX) {C : String} {index : Nat} (hcl : Cond.classLink own index C ∈ wU) (hov : va_AO C X.s) (t0 : Nat) {cA : ClassId} (ht : X.E.tys[t0]? = some (cA, .object C)) {n : Int32} {N : Nat} (hn : ¬ n < 0) (hN : n.toNatClampNeg = N) (hb : N * 4 ≤ 536870912) (h1 : ce + 1 ≤ mcX) (h2 : sl + N ≤ msX) (hdg : decode cc pc = .ok (.anewarray index, 3))
    (kk : ∀ q : Nat, G X nL (ce + 1) (sl + N) (pc + 3) lv (.ref q :: st) (ws ++ [(q, .inl (cA, N, .inr (.inr (.inr (.inr (fun _ => none))))))])) : G X nL ce sl pc lv (.int n :: st) ws :=
  fun H locs ls hP hD hS h => va_newq (D := X.E.D) (cl := vwCl) hX.hx hX.hb hX.hown (hX.hts _ hcl) hov hX.hK hP hD hS hX.hA hn hN hb (by rw [hq.cl.1]; exact h1) (by rw [hq.cl.2.1]; exact h2) hdg (fun q cA1 H1 hK1 hP1 hD1 hS1 => by
    have e1 := nm_obj (hK1.2 X.E.tys.length (cA1, .object C) (by rw [List.getElem?_append_right (Nat.le_refl _), Nat.sub_self]; rfl)).2
    have e2 := nm_obj (hX.hK.2 t0 (cA, .object C) ht).2
    have e3 : cA1 = cA := Option.some.inj (e1.symm.trans e2)
    subst e3
    exact kk q H1 locs ls hP1 hD1 hS1 h)
theorem g_null (hX : Ok X cc nL own) (hdg : decode cc pc = .ok (.aconst_null, 1)) (kk : G X nL ce sl (pc + 1) lv (.null :: st) ws) : G X nL ce sl pc lv st ws :=
  fun H locs ls hP hD hS h => lv_null hX.hx hX.hb hdg (kk H locs ls hP hD hS h)
theorem g_ifnonnull (hX : Ok X cc nL own) {x : Nat} {off : Int} (tgt : Nat) (ht : (pc : Int) + off = (tgt : Int)) (hdg : decode cc pc = .ok (.ifnonnull off, 3)) (kk : G X nL ce sl tgt lv st ws) : G X nL ce sl pc lv (.ref x :: st) ws :=
  fun H locs ls hP hD hS h => lv_ifnonnull hX.hx hX.hb hdg ht (kk H locs ls hP hD hS h)
theorem g_ifnonnullN (hX : Ok X cc nL own) {off : Int} (hdg : decode cc pc = .ok (.ifnonnull off, 3)) (kk : G X nL ce sl (pc + 3) lv st ws) : G X nL ce sl pc lv (.null :: st) ws :=
  fun H locs ls hP hD hS h => lv_ifnonnullN hX.hx hX.hb hdg (kk H locs ls hP hD hS h)
theorem g_ldcS (hX : Ok X cc nL own) {tx : String} {index q : Nat} (hZ : vk_R own index tx q X.s) (hdg : decode cc pc = .ok (.ldc index, 2)) (kk : G X nL ce sl (pc + 2) lv (.ref q :: st) ws) : G X nL ce sl pc lv st ws :=
  fun H locs ls hP hD hS h => va_ldcS hX.hx hX.hb hX.hown hZ hdg (kk H locs ls hP hD hS h)
/-- an object of a class that may lie in the row -/
theorem g_astq (hX : Ok X cc nL own) (q0 t0 qk ci : Nat) {a : Nat} {C : String} {T : u_T} {M n v : Nat} {cA : ClassId} {vs : List Value} {f : Nat → Option Nat} {CE : String} (ha : ws[q0]? = some (a, .inl (cA, n, .inr (.inr (.inr (.inr f)))))) (ht : X.E.tys[t0]? = some (cA, .object CE)) (hca : C = CE ∨ (C, CE) ∈ castQ) (hv : ws[qk]? = some (v, .inr (ci, vs))) (hc : vwCl[ci]? = some (C, T, M)) {i : Int32} (hin : vp_in i n) (j : Nat) (hj : i.toNatClampNeg = j) (ws' : va_W) (hws : ws.set q0 (a, .inl (cA, n, .inr (.inr (.inr (.inr (va_up f j (some v))))))) = ws') (hdg : decode cc pc = .ok (.aastore, 1)) (kk : G X nL ce sl (pc + 1) lv st ws') : G X nL ce sl pc lv (.ref v :: .int i :: .ref a :: st) ws := by
  subst hj
  intro H locs ls hP hD hS h
  rcases hca with rfl | hca
  · exact va_astq (D := X.E.D) (cl := vwCl) hX.hx hX.hb hX.hK hP hD hS q0 t0 qk ci ha ht hv hc hin hdg (fun H1 locs1 hP1 hD1 hS1 => kk H1 locs1 ls (hws ▸ hP1) (hws ▸ hD1) hS1 h)
  · exact va_astqO (D := X.E.D) (cl := vwCl) hX.hx hX.hb hX.hK hP hD hS q0 t0 qk ci ha ht (hX.hE.2.2.1 _ hca) hv hc hin hdg (fun H1 locs1 hP1 hD1 hS1 => kk H1 locs1 ls (hws ▸ hP1) (hws ▸ hD1) hS1 h)
theorem g_objI (hX : Ok X cc nL own) (hq : Rq X dX mcX msX retX PostX) {index : Nat} (hl : Cond.methodLink own index objectInit ∈ wU) (hd : 0 < dX) (hcat : (st.map fun v => v.category).sum ≤ 8) {a : Nat} (hdg : decode cc pc = .ok (.invokespecial index, 3)) (kk : G X nL ce sl (pc + 3) lv st ws) : G X nL ce sl pc lv (.ref a :: st) ws := by
  intro H locs ls hP hD hS h
  exact W.objInit hX.hx hX.hb hX.hown (hX.hts _ hl) (hX.hts _ wd_1_29) (hX.hts _ wd_1_30) rfl (by rw [hX.hml]; exact h.1) rfl hdg (by rw [hq.cl.2.2.1]; exact hd) (by rw [hq.cl.2.2.2]; simp; omega) (kk H locs ls hP hD hS h)
/-- what a callee only reads may lie among the caller's other cells -/
theorem pc_at2 (hX : Ok X cc nL own) {roC pre mid post : va_W} {av : List Value} (hro : ∀ q ∈ roC, q ∈ X.ro ∨ q ∈ pre ∨ q ∈ post) {H : Heap} {locs : List Loc} (hP : va_P X.E.D vwCl (pre ++ (mid ++ post)) H) (hD : va_D X.A (pre ++ (mid ++ post))) (hS : va_S X.A X.s.heap H locs) :
    ∀ U : State, U.heap = H → X.s.WarmedH U.vm → va_Pc av (fun U => U.heap.size = H.size ∧ va_P X.E.D vwCl mid U.heap ∧ va_D (fun _ => True) mid ∧ EnOk X.E U ∧ RoOK X.E roC (va_A mid H.size) U U.heap) av.toArray U := by
  intro U hU hW
  obtain ⟨a1, a2, a3, a4, a5, -⟩ := pc_at (roC := []) (av := av) hX (fun _ h => absurd h List.not_mem_nil) hP hD hS U hU hW
  refine ⟨a1, a2, a3, a4, a5, ?_⟩
  have hF := fr_free hD hS hX.hA
  have h1 : RoOK X.E X.ro (va_A mid H.size) U H := ((hX.hRo.kept hS.2.1).narrow hF).moved hW.alike
  rw [hU]
  have hb : ∀ q ∈ roC, va_at X.E.D vwCl q H ∧ ¬ va_A mid H.size q.1 := by
    intro q hq
    rcases hro q hq with h | h
    · obtain ⟨i, hi⟩ := List.getElem?_of_mem h
      exact ⟨h1.1 i q hi, h1.2.1 i q hi⟩
    · have hm : q ∈ pre ++ (mid ++ post) := by
        rcases h with h | h
        · exact List.mem_append_left _ h
        · exact List.mem_append_right _ (List.mem_append_right _ h)
      obtain ⟨i, hi⟩ := List.getElem?_of_mem hm
      refine ⟨hP i q hi, fun z => ?_⟩
      rcases z with ⟨k, e, hk⟩ | hz
      · exact fr_ne hD h (List.mem_of_getElem? hk) rfl
      · have := (hP i q hi).lt
        omega
  exact ⟨fun k q hk => (hb q (List.mem_of_getElem? hk)).1, fun k q hk => (hb q (List.mem_of_getElem? hk)).2, h1.2.2⟩
theorem g_callV2 {y : MethodName} {ccY : ByteArray} {nY idx n d mc ms : Nat} {ret : Option FieldType} {C : String} {roC pre mid post : va_W} {st0 : List Value} {Post : Option Value → va_W → Prop} {b : Nat} (As : List Value) (hX : Ok X cc nL own) (hq : Rq X dX mcX msX retX PostX) (hw : KwV own idx C y ccY nY ret n)
    (hM : CP X.l X.E y ccY nY ret d mc ms roC (.ref b :: As) mid Post) (hro : ∀ q ∈ roC, q ∈ X.ro ∨ q ∈ pre ∨ q ∈ post) (hd : d < dX) (hc : ce + mc ≤ mcX) (hs : sl + ms ≤ msX) (hn : As.length = n) (hrv : Recv X C b (pre ++ (mid ++ post))) (hst : As.reverse ++ .ref b :: st = st0) (hcat : (st.map fun v => v.category).sum ≤ 8) (hdg : decode cc pc = .ok (.invokevirtual idx, 3))
    (kk : ∀ rv ws', Post rv ws' → G X nL (ce + mc) (sl + ms) (pc + 3) lv (rv.toList ++ st) (pre ++ (ws' ++ post))) : G X nL ce sl pc lv st0 (pre ++ (mid ++ post)) := by
  refine g_run (aa := (Value.ref b :: As).toArray) hX (fun H locs ls hP hD hS hl => ?_) kk
  exact va_runV (As := As) (rest := st) ⟨hX.hx, hX.hb, hX.hml, hX.hown, hX.hts⟩ (hM H.size) (cwV n hX.hts hw.1 rfl rfl rfl ⟨hw.2.1, hw.2.2.1⟩ (rm_fits hq.1 hd hw.2.2.2)) ⟨pc_blind, hrv.cell hX hP hS, pc_at2 hX hro hP hD hS⟩ rfl hn hl.1 hst.symm (lv_room hcat) hdg (by rw [hq.1]; exact ⟨hc, hs⟩)
end BOXN
