/-! ===== the law's own rows ===== -/
def Lw (X : Cx) (b L : Nat) (xs : Nat → Int32) : Prop := X.R = room_1 ∧ b < X.s.heap.size ∧ ¬ X.A b ∧ va_X b L xs X.s X.s.heap ∧ X.A = (fun q => X.s.heap.size ≤ q) ∧ X.args = #[Value.ref b] ∧ X.Q = lw_Z X.below #[Value.ref b] X.s ∧ X.meth.sig.returnType = ret ∧ X.meth.locks = false ∧ L ≤ 3072
abbrev lvL (b a m i : Nat) : List (Nat × Value) := [(3, .int (nI i)), (2, .ref m), (1, .ref a), (0, .ref b)]
theorem va_D_pw {A : Nat → Prop} {ws : va_W} (h : va_D A ws) : ws.Pairwise (fun p q => p.1 ≠ q.1) := by
  rw [List.pairwise_iff_getElem]
  intro i j hi hj hij e
  have := h.1 i j ws[i] ws[j] (List.getElem?_eq_getElem hi) (List.getElem?_eq_getElem hj) e
  omega
theorem va_D_of {A : Nat → Prop} {ws : va_W} (h : ws.Pairwise (fun p q => p.1 ≠ q.1)) (h2 : ∀ q ∈ ws, A q.1) : va_D A ws := by
  rw [List.pairwise_iff_getElem] at h
  refine ⟨fun i j p q hi hj e => ?_, fun k q hk => h2 q (List.mem_of_getElem? hk)⟩
  obtain ⟨hi1, hi2⟩ := List.getElem?_eq_some_iff.mp hi
  obtain ⟨hj1, hj2⟩ := List.getElem?_eq_some_iff.mp hj
  rcases Nat.lt_trichotomy i j with hl | hl | hl
  · exact absurd (by rw [hi2, hj2]; exact e) (h i j hi1 hj1 hl)
  · exact hl
  · exact absurd (by rw [hi2, hj2]; exact e.symm) (h j i hj1 hi1 hl)
section LAWR
variable {X : Cx} {nL ce sl pc : Nat} {lv : List (Nat × Value)} {st st0 : List Value} {ws : va_W} {b L : Nat} {xs : Nat → Int32}
theorem g_perm {ws2 : va_W} (h : ws.Perm ws2) (k : G X nL ce sl pc lv st ws2) : G X nL ce sl pc lv st ws := by
  intro H locs ls hP hD hS hl
  refine k H locs ls (fun i q hq => ?_) ?_ hS hl
  · obtain ⟨j, hj⟩ := List.getElem?_of_mem (h.mem_iff.mpr (List.mem_of_getElem? hq))
    exact hP j q hj
  · refine va_D_of ((h.pairwise_iff (fun e => Ne.symm e)).mp (va_D_pw hD)) (fun q hq => ?_)
    obtain ⟨j, hj⟩ := List.getElem?_of_mem (h.mem_iff.mpr hq)
    exact hD.2 j q hj
theorem gl_sld (hX : Ok X code 4 RL) (hL : Lw X b L xs) {i : Int32} (hin : vp_in i L) (j : Nat) (hj : i.toNatClampNeg = j) (hdg : decode code pc = .ok (.iaload, 1)) (kk : G X 4 ce sl (pc + 1) lv (.int (xs j) :: st) ws) : G X 4 ce sl pc lv (.int i :: .ref b :: st) ws := by
  subst hj
  intro H locs ls hP hD hS h
  exact va_sld hX.hx hX.hb hL.2.2.2.1 hL.2.1 hL.2.2.1 hS hin hdg (kk H locs ls hP hD hS h)
theorem gl_slen (hX : Ok X code 4 RL) (hL : Lw X b L xs) (hdg : decode code pc = .ok (.arraylength, 1)) (kk : G X 4 ce sl (pc + 1) lv (.int (nI L) :: st) ws) : G X 4 ce sl pc lv (.ref b :: st) ws := by
  intro H locs ls hP hD hS h
  exact va_slen hX.hx hX.hb hL.2.2.2.1 hL.2.1 hL.2.2.1 hS hdg (kk H locs ls hP hD hS h)
theorem gl_ret (hX : Ok X code 4 RL) (hL : Lw X b L xs) (hc : ce ≤ 600000) (hs : sl ≤ 7302250) (hdg : decode code pc = .ok (.ireturn, 1)) : G X 4 ce sl pc lv [.int 1] ws := by
  intro H locs ls hP hD hS h
  obtain ⟨hR, -, -, -, hA, hargs, hQ, hret, hlk, -⟩ := hL
  refine W.widen hc hs (va_forget (fun q hq => ?_) ?_)
  · have h1 := hS.2.2 q hq
    rw [hA] at h1
    exact h1
  · rw [hQ, hargs, hR]
    exact lw_ret hX.hx hX.hb hret hlk hdg
theorem gl_tableOut (hX : Ok X code 4 RL) {dflt lo hi : Int} {offs : Array Int} {len : Nat} {x : Int32} (tgt : Nat) (h : x.toInt < lo ∨ hi < x.toInt) (ht : (pc : Int) + dflt = (tgt : Int)) (hdg : decode code pc = .ok (.tableswitch dflt lo hi offs, len)) (kk : G X 4 ce sl tgt lv st ws) : G X 4 ce sl pc lv (.int x :: st) ws :=
  fun H locs ls hP hD hS h1 => lv_tableOut hX.hx hX.hb hdg h ht (kk H locs ls hP hD hS h1)
theorem gl_tableIn (hX : Ok X code 4 RL) {dflt lo hi : Int} {offs : Array Int} {len : Nat} {x : Int32} {off : Int} (tgt : Nat) (h1 : ¬ x.toInt < lo) (h2 : ¬ hi < x.toInt) (ho : offs[(x.toInt - lo).toNat]? = some off) (ht : (pc : Int) + off = (tgt : Int)) (hdg : decode code pc = .ok (.tableswitch dflt lo hi offs, len)) (kk : G X 4 ce sl tgt lv st ws) : G X 4 ce sl pc lv (.int x :: st) ws :=
  fun H locs ls hP hD hS h3 => lv_tableIn hX.hx hX.hb hdg h1 h2 ho ht (kk H locs ls hP hD hS h3)
theorem gl_fits {dY mcY msY nY : Nat} (hR : X.R = room_1) (hd : dY ≤ 1000) (hn : nY + 19 ≤ 64) : (rmD dY mcY msY).frames + 1 ≤ X.R.frames ∧ 8 + (nY + 11) + (rmD dY mcY msY).locals ≤ X.R.locals := by
  rw [hR]
  show dY + 1 ≤ 2048 ∧ 8 + (nY + 11) + 64 * dY ≤ 84000
  omega
theorem gl_callV {y : MethodName} {ccY : ByteArray} {nY idx n d mc ms : Nat} {ret : Option FieldType} {C : String} {roC pre mid post : va_W} {Post : Option Value → va_W → Prop} {r : Nat} (As : List Value) (hX : Ok X code 4 RL) (hR : X.R = room_1) (hw : KwV RL idx C y ccY nY ret n)
    (hM : CP X.l X.E y ccY nY ret d mc ms roC (.ref r :: As) mid Post) (hro : ∀ q ∈ roC, q ∈ X.ro ∨ q ∈ pre ∨ q ∈ post) (hd : d ≤ 1000) (hc : ce + mc ≤ 600000) (hs : sl + ms ≤ 7302250) (hn : As.length = n) (hrv : Recv X C r (pre ++ (mid ++ post))) (hst : As.reverse ++ .ref r :: st = st0) (hcat : (st.map fun v => v.category).sum ≤ 8) (hdg : decode code pc = .ok (.invokevirtual idx, 3))
    (kk : ∀ rv ws', Post rv ws' → G X 4 (ce + mc) (sl + ms) (pc + 3) lv (rv.toList ++ st) (pre ++ (ws' ++ post))) : G X 4 ce sl pc lv st0 (pre ++ (mid ++ post)) := by
  refine g_run (aa := (Value.ref r :: As).toArray) hX (fun H locs ls hP hD hS hl => ?_) kk
  exact va_runV (As := As) (rest := st) ⟨hX.hx, hX.hb, hX.hml, hX.hown, hX.hts⟩ (hM H.size) (cwV n hX.hts hw.1 rfl rfl rfl ⟨hw.2.1, hw.2.2.1⟩ (gl_fits hR hd hw.2.2.2)) ⟨pc_blind, hrv.cell hX hP hS, pc_at2 hX hro hP hD hS⟩ rfl hn hl.1 hst.symm (lv_room hcat) hdg (by rw [hR]; exact ⟨hc, hs⟩)
theorem gl_callI {y : MethodName} {ccY : ByteArray} {nY idx n d mc ms : Nat} {roC pre mid post : va_W} {Post : Option Value → va_W → Prop} {r : Nat} (As : List Value) (hX : Ok X code 4 RL) (hR : X.R = room_1) (hw : KwI RL idx y ccY nY n)
    (hM : CP X.l X.E y ccY nY none d mc ms roC (.ref r :: As) mid Post) (hro : ∀ q ∈ roC, q ∈ X.ro) (hd : d ≤ 1000) (hc : ce + mc ≤ 600000) (hs : sl + ms ≤ 7302250) (hn : As.length = n) (hst : As.reverse ++ .ref r :: st = st0) (hcat : (st.map fun v => v.category).sum ≤ 8) (hdg : decode code pc = .ok (.invokespecial idx, 3))
    (kk : ∀ rv ws', Post rv ws' → G X 4 (ce + mc) (sl + ms) (pc + 3) lv (rv.toList ++ st) (pre ++ (ws' ++ post))) : G X 4 ce sl pc lv st0 (pre ++ (mid ++ post)) := by
  refine g_run (aa := (Value.ref r :: As).toArray) hX (fun H locs ls hP hD hS hl => ?_) kk
  exact va_runI (As := As) (rest := st) ⟨hX.hx, hX.hb, hX.hml, hX.hown, hX.hts⟩ (hM H.size) (cwI n hX.hts (mem_codeU hw.2.2.2.1) rfl rfl rfl (hX.hts _ hw.2.2.1) (hX.hts _ hw.1) (hX.hts _ hw.2.1) hw.2.2.2.2.1 hw.2.2.2.2.2.1 (gl_fits hR hd hw.2.2.2.2.2.2)) ⟨pc_blind, pc_at hX hro hP hD hS⟩ rfl hn hl.1 hst.symm (lv_room hcat) hdg (by rw [hR]; exact ⟨hc, hs⟩)
theorem gl_new (hX : Ok X code 4 RL) (hR : X.R = room_1) {C : String} {T : u_T} {N ci index : Nat} (hin : ∀ w ∈ u_ws C T N, w ∈ wU) (ty : Nat → FieldType) (hty : ∀ k, k < N → parseFieldDescriptor (T k).2.2.1 = some (ty k)) (hcl : Cond.classLink RL index C ∈ wU) (hinst : Cond.instantiable C N ∈ wU) (hini : Cond.initialized C ∈ wU) (hc : vwCl[ci]? = some (C, T, N)) {fs : List Value} (hfs : ∀ j, j < N → defaultValue (ty j) = vp_V fs j) (h1 : ce + 1 ≤ 600000) (h2 : sl + N ≤ 7302250) (hdg : decode code pc = .ok (.new index, 3))
    (kk : ∀ q : Nat, G X 4 (ce + 1) (sl + N) (pc + 3) lv (.ref q :: st) (ws ++ [(q, .inr (ci, fs))])) : G X 4 ce sl pc lv st ws :=
  fun H locs ls hP hD hS h => va_new (D := X.E.D) (cl := vwCl) (C := C) (T := T) (N := N) hX.hx hX.hb hX.hts hin ty hty hX.hown (hX.hts _ hcl) (hX.hts _ hinst) (hX.hts _ hini) hX.hK hP hD hS hX.hA hc hfs (by rw [hR]; exact h1) (by rw [hR]; exact h2) hdg (fun q H1 hP1 hD1 hS1 => kk q H1 locs ls hP1 hD1 hS1 h)
theorem gl_arg (hX : Ok X code 4 RL) (hL : Lw X b L xs) {a m i : Nat} {j : Nat} {c : Int} (hcj : Int32.ofInt c = nI j) (hj : i + j < L) (d0 : decode code pc = .ok (.aload_n 0, 1)) (d1 : decode code (pc + 1) = .ok (.iload_n 3, 1)) (d2 : decode code (pc + 1 + 1) = .ok (.iconst c, 1)) (d3 : decode code (pc + 1 + 1 + 1) = .ok (.iadd, 1)) (d4 : decode code (pc + 1 + 1 + 1 + 1) = .ok (.iaload, 1)) (kk : G X 4 ce sl (pc + 5) (lvL b a m i) (.int (xs (i + j)) :: st) ws) : G X 4 ce sl pc (lvL b a m i) st ws := by
  have hL3 := hL.2.2.2.2.2.2.2.2.2
  refine g_aloadn hX 3 rfl rfl d0 ?_
  refine g_iloadn hX 0 rfl rfl d1 ?_
  refine g_iconst hX hcj d2 ?_
  refine g_iadd hX d3 ?_
  rw [nI_add]
  exact gl_sld hX hL (vp_in_nI hj (by omega)) (i + j) (nI_clamp (by omega)) d4 kk
/-- the law's world: the class's object, the lift kept by it, riders' cells, the reference -/
abbrev LW (E : En) (ad Q : Nat → Nat) (kv : Value) (S : MS) (K RC : va_W) (md : Nat → Nat) (M : MS) : va_W := xW E ad Q kv S ++ (K ++ (RC ++ mW E md M))
theorem assoc4 (a k r m : va_W) : (a ++ (k ++ r)) ++ (m ++ []) = a ++ (k ++ (r ++ m)) := by simp only [List.append_nil, List.append_assoc]
variable {ad Q md : Nat → Nat} {kv : Value} {S S2 M M2 : MS} {K RC : va_W} {RD : RDt}
theorem gl_x {y : MethodName} {ccY : ByteArray} {nY idx n d mc ms : Nat} {v : Int32} (As : List Value) (hX : Ok X code 4 RL) (hR : X.R = room_1) (hw : KwV RL idx RX11 y ccY nY (some .int) n)
    (hM : CP X.l X.E y ccY nY (some .int) d mc ms (roL Q RD) (.ref (ad 10) :: As) (xW X.E ad Q kv S) (fun rv w => rv = some (.int v) ∧ w = xW X.E ad Q kv S2)) (hQ : ∀ q ∈ roL Q RD, q ∈ RC) (hd : d ≤ 1000) (hc : ce + mc ≤ 600000) (hs : sl + ms ≤ 7302250) (hn : As.length = n) (hst : As.reverse ++ .ref (ad 10) :: st = st0) (hcat : (st.map fun v => v.category).sum ≤ 8) (hdg : decode code pc = .ok (.invokevirtual idx, 3))
    (kk : G X 4 (ce + mc) (sl + ms) (pc + 3) lv (.int v :: st) (LW X.E ad Q kv S2 K RC md M)) : G X 4 ce sl pc lv st0 (LW X.E ad Q kv S K RC md M) :=
  g_eqW (ws2 := [] ++ (xW X.E ad Q kv S ++ (K ++ (RC ++ mW X.E md M)))) rfl (gl_callV (pre := []) (mid := xW X.E ad Q kv S) (post := K ++ (RC ++ mW X.E md M)) As hX hR hw hM (fun q hq => Or.inr (Or.inr (List.mem_append_right _ (List.mem_append_left _ (hQ q hq))))) hd hc hs hn (Recv.of 10 11 rfl rfl) hst hcat hdg (fun rv ws2 hp => by obtain ⟨rfl, rfl⟩ := hp; exact kk))
theorem gl_m {y : MethodName} {ccY : ByteArray} {nY idx n d mc ms : Nat} {v : Int32} (As : List Value) (hX : Ok X code 4 RL) (hR : X.R = room_1) (hw : KwV RL idx RX12 y ccY nY (some .int) n)
    (hM : CP X.l X.E y ccY nY (some .int) d mc ms [] (.ref (md 0) :: As) (mW X.E md M) (fun rv w => rv = some (.int v) ∧ w = mW X.E md M2)) (hd : d ≤ 1000) (hc : ce + mc ≤ 600000) (hs : sl + ms ≤ 7302250) (hn : As.length = n) (hst : As.reverse ++ .ref (md 0) :: st = st0) (hcat : (st.map fun v => v.category).sum ≤ 8) (hdg : decode code pc = .ok (.invokevirtual idx, 3))
    (kk : G X 4 (ce + mc) (sl + ms) (pc + 3) lv (.int v :: st) (LW X.E ad Q kv S K RC md M2)) : G X 4 ce sl pc lv st0 (LW X.E ad Q kv S K RC md M) :=
  g_eqW (assoc4 _ _ _ _) (gl_callV (pre := xW X.E ad Q kv S ++ (K ++ RC)) (mid := mW X.E md M) (post := []) As hX hR hw hM (fun _ h => absurd h List.not_mem_nil) hd hc hs hn ⟨12, _, _, _, rfl, Or.inl (List.mem_append_right _ (List.mem_append_left _ List.mem_cons_self))⟩ hst hcat hdg (fun rv ws2 hp => by obtain ⟨rfl, rfl⟩ := hp; exact g_eqW (assoc4 _ _ _ _).symm kk))
end LAWR
