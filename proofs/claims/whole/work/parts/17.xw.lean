theorem inX0 : ∀ w ∈ u_ws RX0 TX0 3, w ∈ wU := u_inU (fun k hk => match k, hk with
  | 0, _ => wd_1_154
  | 1, _ => wd_1_156
  | 2, _ => wd_1_158
  | k + 3, hk => absurd hk (by omega))
theorem inX1 : ∀ w ∈ u_ws RX1 TX1 3, w ∈ wU := u_inU (fun k hk => match k, hk with
  | 0, _ => wd_1_187
  | 1, _ => wd_1_188
  | 2, _ => wd_1_189
  | k + 3, hk => absurd hk (by omega))
theorem inX2 : ∀ w ∈ u_ws RX2 TX2 10, w ∈ wU := u_inU (fun k hk => match k, hk with
  | 0, _ => wd_1_108
  | 1, _ => wd_1_110
  | 2, _ => wd_1_112
  | 3, _ => wd_1_114
  | 4, _ => wd_1_116
  | 5, _ => wd_1_118
  | 6, _ => wd_1_120
  | 7, _ => wd_1_122
  | 8, _ => wd_1_124
  | 9, _ => wd_1_126
  | k + 10, hk => absurd hk (by omega))
theorem inX3 : ∀ w ∈ u_ws RX3 TX3 3, w ∈ wU := u_inU (fun k hk => match k, hk with
  | 0, _ => wd_1_167
  | 1, _ => wd_1_168
  | 2, _ => wd_1_169
  | k + 3, hk => absurd hk (by omega))
theorem inX4 : ∀ w ∈ u_ws RX4 TX4 16, w ∈ wU := u_inU (fun k hk => match k, hk with
  | 0, _ => wd_2_123
  | 1, _ => wd_2_125
  | 2, _ => wd_2_127
  | 3, _ => wd_2_129
  | 4, _ => wd_2_131
  | 5, _ => wd_2_133
  | 6, _ => wd_2_135
  | 7, _ => wd_2_137
  | 8, _ => wd_2_139
  | 9, _ => wd_2_141
  | 10, _ => wd_2_143
  | 11, _ => wd_2_145
  | 12, _ => wd_2_147
  | 13, _ => wd_2_149
  | 14, _ => wd_2_151
  | 15, _ => wd_2_153
  | k + 16, hk => absurd hk (by omega))
theorem inX5 : ∀ w ∈ u_ws RX5 TX5 3, w ∈ wU := u_inU (fun k hk => match k, hk with
  | 0, _ => wd_1_197
  | 1, _ => wd_1_198
  | 2, _ => wd_1_199
  | k + 3, hk => absurd hk (by omega))
theorem inX6 : ∀ w ∈ u_ws RX6 TX6 3, w ∈ wU := u_inU (fun k hk => match k, hk with
  | 0, _ => wd_1_214
  | 1, _ => wd_1_215
  | 2, _ => wd_1_216
  | k + 3, hk => absurd hk (by omega))
theorem inX7 : ∀ w ∈ u_ws RX7 TX7 3, w ∈ wU := u_inU (fun k hk => match k, hk with
  | 0, _ => wd_2_186
  | 1, _ => wd_2_188
  | 2, _ => wd_2_190
  | k + 3, hk => absurd hk (by omega))
theorem inX8 : ∀ w ∈ u_ws RX8 TX8 3, w ∈ wU := u_inU (fun k hk => match k, hk with
  | 0, _ => wd_1_207
  | 1, _ => wd_1_208
  | 2, _ => wd_1_209
  | k + 3, hk => absurd hk (by omega))
theorem inX9 : ∀ w ∈ u_ws RX9 TX9 2, w ∈ wU := u_inU (fun k hk => match k, hk with
  | 0, _ => wd_2_168
  | 1, _ => wd_2_170
  | k + 2, hk => absurd hk (by omega))
theorem inX10 : ∀ w ∈ u_ws RX10 TX10 3, w ∈ wU := u_inU (fun k hk => match k, hk with
  | 0, _ => wd_1_177
  | 1, _ => wd_1_178
  | 2, _ => wd_1_179
  | k + 3, hk => absurd hk (by omega))
theorem inX11 : ∀ w ∈ u_ws RX11 TX11 6, w ∈ wU := u_inU (fun k hk => match k, hk with
  | 0, _ => wd_2_199
  | 1, _ => wd_2_201
  | 2, _ => wd_2_203
  | 3, _ => wd_2_205
  | 4, _ => wd_2_207
  | 5, _ => wd_2_209
  | k + 6, hk => absurd hk (by omega))
/-! ===== super.m(..) where m is declared further up: x is named, y is run ===== -/
theorem sub_up {s : State} {args : Array Value} {C D : String} {c d : ClassId} (hc : s.vm.findClass C = some c) (hd : s.vm.findClass D = some d) (h : (Cond.superclass C D).before args s = true) : s.vm.isSubclass c d = true := by
  obtain ⟨p, k, kp, hp, hk, -, hs, -⟩ := Cond.superclass_spec hc h
  obtain rfl : p = d := Option.some.inj (hp.symm.trans hd)
  have hlt : c < s.vm.classes.size := (Array.getElem?_eq_some_iff.mp hk).1
  obtain ⟨n, hn⟩ : ∃ n, s.vm.classes.size = n + 1 := ⟨s.vm.classes.size - 1, (Nat.succ_pred_eq_of_pos (Nat.lt_of_le_of_lt (Nat.zero_le _) hlt)).symm⟩
  unfold Vm.isSubclass
  rw [hn]
  simp [Vm.isSubclassAux, hk, hs]
section BOXX
variable {X : Cx} {cc : ByteArray} {nL ce sl pc : Nat} {own : String} {lv lv' : List (Nat × Value)} {st st0 : List Value} {ws : va_W} {dX mcX msX : Nat} {retX : Option FieldType} {PostX : Option Value → va_W → Prop}
def KwSX (own : String) (idx : Nat) (x y : MethodName) (ccY : ByteArray) (nY : Nat) (ret : Option FieldType) (n : Nat) : Prop :=
  (Cond.methodLink own idx x ∈ wU ∧ Cond.sameMethod x.cls y.cls x.name x.desc ∈ wU ∧ Cond.superclass own x.cls ∈ wU ∧ Cond.superclass x.cls y.cls ∈ wU ∧ Cond.initialized y.cls ∈ wU ∧ Cond.code y ccY nY ret ∈ wU) ∧ y = ⟨y.cls, x.name, x.desc⟩ ∧ (x.name ≠ "<init>" ∧ (parseMethodDescriptor x.desc).map (fun d => d.parameters.length) = some n) ∧ nY + 19 ≤ 64
theorem g_callSX {x y : MethodName} {ccY : ByteArray} {nY idx n d mc ms : Nat} {ret : Option FieldType} {C : String} {roC pre mid post : va_W} {Post : Option Value → va_W → Prop} {b : Nat} (As : List Value) (hX : Ok X cc nL own) (hq : Rq X dX mcX msX retX PostX) (hw : KwSX own idx x y ccY nY ret n)
    (hinst : Cond.instanceMethod y ∈ wU) (hM : CP X.l X.E y ccY nY ret d mc ms roC (.ref b :: As) mid Post) (hro : ∀ q ∈ roC, q ∈ X.ro) (hd : d < dX) (hc : ce + mc ≤ mcX) (hs : sl + ms ≤ msX) (hn : As.length = n) (hrv : Recv X C b (pre ++ (mid ++ post))) (hst : As.reverse ++ .ref b :: st = st0) (hcat : (st.map fun v => v.category).sum ≤ 8) (hdg : decode cc pc = .ok (.invokespecial idx, 3))
    (kk : ∀ rv ws', Post rv ws' → G X nL (ce + mc) (sl + ms) (pc + 3) lv (rv.toList ++ st) (pre ++ (ws' ++ post))) : G X nL ce sl pc lv st0 (pre ++ (mid ++ post)) := by
  obtain ⟨⟨w1, w2, w3, w4, w5, w6⟩, hyx, ⟨hno, hlen⟩, h64⟩ := hw
  refine g_run (aa := (Value.ref b :: As).toArray) hX (fun H locs ls hP hD hS hl => ?_) kk
  obtain ⟨ci, fs, T0, N0, hci, -⟩ := id hrv
  obtain ⟨hfc, kB, hkB, -⟩ := (hX.hK.1 ci _ hci).2
  obtain ⟨cellB, hcB, hoB, hclB⟩ := hrv.cell hX hP hS
  have hcc := Option.some.inj (hfc.symm.trans hclB)
  rw [hcc] at hkB
  have hts := hX.hts
  obtain ⟨mk, methM, hnamed, hmethM, hstM, habM⟩ := Cond.instanceMethod_spec (hts _ hinst)
  obtain ⟨methM', cM, hmethM', -, -, -, -, -, -, hsigM⟩ := Cond.code_spec hnamed (hts _ w6)
  cases hmethM.symm.trans hmethM'
  obtain ⟨ps, dk, kp, hps, hdk, hkp, hsuper, -, -, hnid⟩ := Cond.superclass_spec hX.hown (hts _ w3)
  have hsub : X.s.vm.isSubclass ps mk.cls = true := sub_up hps (findClass_of_methodNamed hnamed) (hts _ w4)
  have hK : Back X.l X.R X.p X.e X.below X.s X.args y 3 8 (PreOf X.R mc ms _) (PostOf (QcOf X.E (va_A mid H.size) Post) mc ms (va_A mid H.size)) := back_of (bytes := ccY) (maxL := nY) (ret := ret) (hM H.size) pc_blind rfl rfl (rm_fits (mcY := mc) (msY := ms) hq.1 hd h64).1 (rm_fits (mcY := mc) (msY := ms) hq.1 hd h64).2 (pay_in hts (mem_codeU w6)) List.mem_cons_self (fun a' U hW => word_at hW (Or.inl (by first | rfl | simp [Cond.onTables, Cond.keeps, Cond.steady])) (hts _ w5))
  intro T hT XX
  have hnm : X.s.methodNamed? ⟨y.cls, x.name, x.desc⟩ = some mk := hyx ▸ hnamed
  have hdesc : y.desc = x.desc := by rw [hyx]
  obtain ⟨vm₁, X₁, hstep₁⟩ := XX.invokespecialUp hX.hx (owner := y.cls) hX.hown (hts _ w1) (hts _ w2) hnm hmethM hstM habM hno hdk hnid hps hsuper hsub (a := b) (cell := cellB) (by rw [hT]; exact hcB)
    (fun z h => by rw [h] at hoB; cases hoB) hkB (g := F0 X.m pc ls st0) rfl (argsL := As) (rest := st) (by
      rw [hdesc] at hsigM
      rw [hsigM] at hlen
      rw [hn]
      exact (Option.some.inj hlen).symm) hst.symm (by rw [hX.hb]; exact hdg)
  obtain ⟨v, B, X', hpost, hsteps⟩ := hK X.m X.meth X.c ⟨T.setVm vm₁, locs, ce, sl⟩ { (F0 X.m pc ls st0) with stack := st } (.invokespecial idx) mk (Value.ref b :: As).toArray X₁ rfl (hl.1.trans hX.hml.symm) (by rw [hX.hb]; exact hdg) (lv_room hcat) (X₁.named hnamed) ⟨by rw [hq.1]; exact hc, by rw [hq.1]; exact hs, pc_at hX hro hP hD hS (T.setVm vm₁) hT X₁.warmed⟩
  obtain ⟨g', mk', t, L, e1, e2, hqc, h1, hL, h2, h3⟩ := hpost
  obtain ⟨U', l2, c2, s2⟩ := B
  dsimp only [Pt.U, Pt.locs, Pt.cells, Pt.slots] at X' e1 e2 h1 h2 h3 hsteps
  subst h1; subst h2; subst h3
  exact ⟨v, (T.setVm vm₁).calling g' mk' (Value.ref b :: As).toArray, t, U', L, hT, X', hL, e1, e2, hqc, fun target h => hstep₁ _ (by rw [doInvoke_state]; exact hsteps.trans h)⟩
end BOXX
/-! ===== Trace ===== -/
abbrev tW (E : En) (ad : Nat → Nat) (S : MS) : va_W := [(ad 0, .inr (9, [.ref (ad 1), .int (S.2 0)])), (ad 1, .inl (E.cI, 40, .inl (S.1 1)))]
section TWR
variable {X : Cx} {cc : ByteArray} {nL ce sl pc : Nat} {lv : List (Nat × Value)} {st : List Value} {ad : Nat → Nat} {S : MS}
theorem tg_bodies (hX : Ok X cc nL RX9) (hdg : decode cc pc = .ok (.getfield 9, 3)) (kk : G X nL ce sl (pc + 3) lv (.ref (ad 1) :: st) (tW X.E ad S)) : G X nL ce sl pc lv (.ref (ad 0) :: st) (tW X.E ad S) := g_get (C := RX9) (T := TX9) (N := 2) hX inX9 0 rfl rfl 0 (by decide) wd_2_164 (fun _ h => h) rfl hdg kk
theorem tg_length (hX : Ok X cc nL RX9) {v : Int32} (hv : S.2 0 = v) (hdg : decode cc pc = .ok (.getfield 15, 3)) (kk : G X nL ce sl (pc + 3) lv (.int v :: st) (tW X.E ad S)) : G X nL ce sl pc lv (.ref (ad 0) :: st) (tW X.E ad S) := by
  subst hv
  exact g_get (C := RX9) (T := TX9) (N := 2) hX inX9 0 rfl rfl 1 (by decide) wd_2_166 (fun _ h => h) rfl hdg kk
theorem tp_length (hX : Ok X cc nL RX9) {v : Int32} (hdg : decode cc pc = .ok (.putfield 15, 3)) (kk : G X nL ce sl (pc + 3) lv st (tW X.E ad (sF S 0 v))) : G X nL ce sl pc lv (.int v :: .ref (ad 0) :: st) (tW X.E ad S) := g_put (C := RX9) (T := TX9) (N := 2) (ty := .int) hX inX9 tyX9 tyX9_ok nmX9 0 rfl rfl 1 (by decide) wd_2_166 (fun _ h => h) rfl (by decide +kernel) rfl rfl (Nat.le_of_ble_eq_true rfl) (tW X.E ad (sF S 0 v)) rfl hdg kk
theorem ts_bodies {own : String} (hX : Ok X cc nL own) {i x : Int32} (hin : vp_in i 40) (j : Nat) (hj : i.toNatClampNeg = j) (hdg : decode cc pc = .ok (.iastore, 1)) (kk : G X nL ce sl (pc + 1) lv st (tW X.E ad (sA S 1 j x))) : G X nL ce sl pc lv (.int x :: .int i :: .ref (ad 1) :: st) (tW X.E ad S) := g_iast hX 1 (n := 40) (f := S.1 1) rfl hin j hj (tW X.E ad (sA S 1 j x)) rfl hdg kk
end TWR
