def upQ {α : Type} (Q : Nat → α) (k : Nat) (q : α) : Nat → α := fun j => if j = k then q else Q j
theorem upQ_va {Q : Nat → Nat} {k q : Nat} : ∀ j : Nat, va_up (fun j => some (Q j)) k (some q) j = some (upQ Q k q j) := by
  intro j
  unfold va_up upQ
  by_cases h : j = k
  · rw [if_pos h, if_pos h]
  · rw [if_neg h, if_neg h]
theorem rk_any2 {X : Cx} {cc : ByteArray} {nL : Nat} {own : String} (hX : Ok X cc nL own) {v i : Nat} {R : Nat × Int32 × Int32 × Int32} {H : Heap} {ws : va_W} (hP : va_P X.E.D vwCl ws H) (hi : ws[i]? = some (v, rcl R)) (hR : isRk R.1) : va_Any RX6 X.s H v := by
  have key : ∀ (C : String) (T : u_T), vwCl[R.1]? = some (C, T, 3) → (C, RX6) ∈ castQ → va_Any RX6 X.s H v := fun C T hc hq => va_rAny hX.hK hP hi hc (fun comp c0 h1 h2 => by
    obtain ⟨c1, t1, f1, f2, f3⟩ := Cond.castable_spec (va_Nw.use (A := X.args) rfl (hX.hE.2.2.1 _ hq))
    have e1 : c1 = c0 := Option.some.inj (f1.symm.trans h2)
    have e2 : t1 = comp := Option.some.inj (f2.symm.trans h1)
    rw [← e1, ← e2]
    exact f3)
  rcases hR with h | h | h | h | h | h | h
  · exact key RX0 TX0 (by rw [h]; rfl) (by decide)
  · exact key RX1 TX1 (by rw [h]; rfl) (by decide)
  · exact key RX3 TX3 (by rw [h]; rfl) (by decide)
  · exact key RX5 TX5 (by rw [h]; rfl) (by decide)
  · have hc : vwCl[R.1]? = some (RX6, TX6, 3) := by rw [h]; rfl
    exact va_rAny hX.hK hP hi hc (fun comp c0 h1 h2 => by
      have hcl := (hX.hK.1 6 (RX6, TX6, 3) rfl).2
      have e1 : X.E.D.1 6 = comp := Option.some.inj (hcl.1.symm.trans h1)
      have e2 : X.E.D.1 6 = c0 := Option.some.inj (hcl.1.symm.trans h2)
      rw [← e1, ← e2]
      exact va_assign hcl)
  · exact key RX8 TX8 (by rw [h]; rfl) (by decide)
  · exact key RX10 TX10 (by rw [h]; rfl) (by decide)
theorem g_astqW {X : Cx} {cc : ByteArray} {nL ce sl pc : Nat} {own : String} {lv : List (Nat × Value)} {st : List Value} {ws : va_W} (hX : Ok X cc nL own) (q0 i0 : Nat) {a n v : Nat} {f : Nat → Option Nat} (ha : ws[q0]? = some (a, .inl (X.E.cR, n, .inr (.inr (.inr (.inr f)))))) {R : Nat × Int32 × Int32 × Int32} (hv : ws[i0]? = some (v, rcl R)) (hR : isRk R.1) {i : Int32} (hin : vp_in i n) (j : Nat) (hj : i.toNatClampNeg = j) (ws' : va_W) (hws : ws.set q0 (a, .inl (X.E.cR, n, .inr (.inr (.inr (.inr (va_up f j (some v))))))) = ws') (hdg : decode cc pc = .ok (.aastore, 1)) (kk : G X nL ce sl (pc + 1) lv st ws') : G X nL ce sl pc lv (.ref v :: .int i :: .ref a :: st) ws := by
  subst hj
  intro H locs ls hP hD hS h
  exact va_astqM (D := X.E.D) (cl := vwCl) hX.hx hX.hb hX.hK hP hD hS q0 2 (E := RX6) ha rfl (rk_any2 hX hP hv hR) hin hdg (fun H1 locs1 hP1 hD1 hS1 => kk H1 locs1 ls (hws ▸ hP1) (hws ▸ hD1) hS1 h)
theorem kw_RX11_X11_riderOf : KwS RX11 82 yX11_riderOf cX11_riderOf 4 (some (.object RX6)) 2 := ⟨mem_wsS wd_3_18 wd_1_134 wd_1_1 wd_1_135, ⟨by decide +kernel, by decide +kernel, by decide +kernel⟩, by decide⟩
theorem c_X11_rider_ok {l : Launch} {E : En} {ad Q : Nat → Nat} {kv : Value} {RD : Nat → Nat × Int32 × Int32 × Int32} {a1 r0 : Int32} {S : MS} {k : Nat} (h1 : f_X11_isKindWithNumber a1 = some r0) (h2 : ¬ r0 = 0) (h3 : S.2 6 < 6) (hin : vp_in (S.2 6) 6) (hk0 : (S.2 6).toNatClampNeg = k) : CP l E yX11_rider cX11_rider 3 (some .int) 5 1 3 (roL Q RD) [.ref (ad 10), .int a1] (xW E ad Q kv S) (fun rv w => rv = some (.int (S.2 6)) ∧ ∃ q : Nat, w = xW E ad (upQ Q k q) kv (sF (sA S 1 k 0) 6 (S.2 6 + 1)) ++ [(q, rcl (rdOf a1 (S.2 6)))]) :=
  CP.of (lv := [(0, .ref (ad 10)), (1, .int a1)]) (by decide +kernel) (Nat.le_of_ble_eq_true rfl) rfl (fun X hl hE hro hX hq hn => by
    subst hl; subst hE
    refine g_iloadn hX 1 rfl rfl dX11_rider_0 ?_
    refine k_RX11_X11_isKindWithNumber hX hq h1 (by decide) (by decide) (by decide) (Nat.le_of_ble_eq_true rfl) dX11_rider_1 ?_
    refine g_if_ne hX 13 (by decide) dX11_rider_4 (fun _ => ?_) (fun c => absurd c h2)
    refine g_aloadn hX 0 rfl rfl dX11_rider_13 ?_
    refine xg_lift hX dX11_rider_14 ?_
    refine xg_riderCount hX (v := S.2 6) rfl dX11_rider_17 ?_
    refine g_istoren hX [(2, .int (S.2 6)), (0, .ref (ad 10)), (1, .int a1)] rfl (by decide) rfl dX11_rider_20 ?_
    refine g_iloadn hX 0 rfl rfl dX11_rider_21 ?_
    refine g_bipush hX (v := 6) (by decide) dX11_rider_22 ?_
    refine g_icmp_lt hX 33 (by decide) dX11_rider_24 (fun _ => ?_) (fun c => absurd h3 c)
    refine g_aloadn hX 1 rfl rfl dX11_rider_33 ?_
    refine xg_lift hX dX11_rider_34 ?_
    refine xg_riders hX dX11_rider_37 ?_
    refine g_iloadn hX 0 rfl rfl dX11_rider_40 ?_
    refine g_iloadn hX 2 rfl rfl dX11_rider_41 ?_
    refine g_iloadn hX 0 rfl rfl dX11_rider_42 ?_
    refine g_eqW (app0 _) (g_callS (pre := xW X.E ad Q kv S) (mid := []) (post := []) [.int a1, .int (S.2 6)] hX hq kw_RX11_X11_riderOf (c_X11_riderOf (a1 := a1) (a2 := (S.2 6))) (fun _ h => absurd h List.not_mem_nil) (by decide) (by decide) (by decide) rfl rfl (Nat.le_of_ble_eq_true rfl) dX11_rider_43 (fun rv ws2 hp => ?_))
    obtain ⟨q, rfl, rfl⟩ := hp
    refine g_eqW (ws2 := xW X.E ad Q kv S ++ [(q, rcl (rdOf a1 (S.2 6)))]) rfl ?_
    refine g_astqW hX 14 23 rfl rfl (kcl_rk _) hin k hk0 _ rfl dX11_rider_46 ?_
    refine g_arrQ 14 (g := fun j => some (upQ Q k q j)) rfl (fun j _ => upQ_va j) (xW X.E ad (upQ Q k q) kv S ++ [(q, rcl (rdOf a1 (S.2 6)))]) rfl ?_
    refine g_aloadn hX 1 rfl rfl dX11_rider_47 ?_
    refine g_get (C := RX11) (T := TX11) (N := 6) hX inX11 10 rfl rfl 0 (by decide) wd_2_193 (fun _ h => h) rfl dX11_rider_48 ?_
    refine g_get (C := RX4) (T := TX4) (N := 16) hX inX4 13 rfl rfl 8 (by decide) wd_2_111 (fun _ h => h) rfl dX11_rider_51 ?_
    refine g_iloadn hX 0 rfl rfl dX11_rider_54 ?_
    refine g_iconst hX (v := 0) (by decide) dX11_rider_55 ?_
    refine g_iast hX 15 (n := 6) (f := S.1 1) rfl hin k hk0 (xW X.E ad (upQ Q k q) kv (sA S 1 k 0) ++ [(q, rcl (rdOf a1 (S.2 6)))]) rfl dX11_rider_56 ?_
    refine g_aloadn hX 1 rfl rfl dX11_rider_57 ?_
    refine g_get (C := RX11) (T := TX11) (N := 6) hX inX11 10 rfl rfl 0 (by decide) wd_2_193 (fun _ h => h) rfl dX11_rider_58 ?_
    refine g_dup hX rfl dX11_rider_61 ?_
    refine g_get (C := RX4) (T := TX4) (N := 16) hX inX4 13 rfl rfl 6 (by decide) wd_2_107 (fun _ h => h) rfl dX11_rider_62 ?_
    refine g_iconst hX (v := 1) (by decide) dX11_rider_65 ?_
    refine g_iadd hX dX11_rider_66 ?_
    refine g_put (C := RX4) (T := TX4) (N := 16) (ty := .int) hX inX4 tyX4 tyX4_ok nmX4 13 rfl rfl 6 (by decide) wd_2_107 (fun _ h => h) rfl (by decide +kernel) rfl rfl (Nat.le_of_ble_eq_true rfl) (xW X.E ad (upQ Q k q) kv (sF (sA S 1 k 0) 6 (S.2 6 + 1)) ++ [(q, rcl (rdOf a1 (S.2 6)))]) rfl dX11_rider_67 ?_
    refine g_iloadn hX 0 rfl rfl dX11_rider_70 ?_
    exact g_iret hX hq (by decide) (by decide) ⟨rfl, q, rfl⟩ dX11_rider_71)
theorem c_X11_become_ok {l : Launch} {E : En} {ad Q : Nat → Nat} {kv : Value} {RD : Nat → Nat × Int32 × Int32 × Int32} (hRk : ∀ k, k < 6 → isRk (RD k).1) {a1 a2 r0 r1 : Int32} {S : MS} {k : Nat} (h0 : f_X11_isRider RD a1 S = some (r1, S)) (h01 : ¬ r1 = 0) (h1 : f_X11_isKindWithNumber a2 = some r0) (h2 : ¬ r0 = 0) (hin : vp_in a1 6) (hk0 : a1.toNatClampNeg = k) : CP l E yX11_become cX11_become 4 (some .int) 5 1 3 (roL Q RD) [.ref (ad 10), .int a1, .int a2] (xW E ad Q kv S) (fun rv w => rv = some (.int (RD k).2.1) ∧ ∃ q : Nat, w = xW E ad (upQ Q k q) kv S ++ [(q, rcl (rdOf a2 a1))]) :=
  CP.of (lv := [(0, .ref (ad 10)), (1, .int a1), (2, .int a2)]) (by decide +kernel) (Nat.le_of_ble_eq_true rfl) rfl (fun X hl hE hro hX hq hn => by
    subst hl; subst hE
    have hro2 : ∀ z ∈ roL Q RD, z ∈ X.ro := fun z hz => by rw [hro]; exact hz
    have hk : k < 6 := vp_lt hin hk0
    refine g_aloadn hX 0 rfl rfl dX11_become_0 ?_
    refine g_iloadn hX 1 rfl rfl dX11_become_1 ?_
    refine k_X11_isRider hro2 hX hq (c_X11_isRider hRk h0) (by decide) (by decide) (by decide) (Nat.le_of_ble_eq_true rfl) dX11_become_2 ?_
    refine g_if_eq hX 15 (by decide) dX11_become_5 (fun c => absurd c h01) (fun _ => ?_)
    refine g_iloadn hX 2 rfl rfl dX11_become_8 ?_
    refine k_RX11_X11_isKindWithNumber hX hq h1 (by decide) (by decide) (by decide) (Nat.le_of_ble_eq_true rfl) dX11_become_9 ?_
    refine g_if_ne hX 21 (by decide) dX11_become_12 (fun _ => ?_) (fun c => absurd c h2)
    refine g_aloadn hX 0 rfl rfl dX11_become_21 ?_
    refine xg_lift hX dX11_become_22 ?_
    refine xg_riders hX dX11_become_25 ?_
    refine g_iloadn hX 1 rfl rfl dX11_become_28 ?_
    refine xl_riders hX hin k hk0 dX11_become_29 ?_
    refine xg_rkind hro2 hRk hk hX dX11_become_30 ?_
    refine g_istoren hX [(3, .int (RD k).2.1), (0, .ref (ad 10)), (1, .int a1), (2, .int a2)] rfl (by decide) rfl dX11_become_33 ?_
    refine g_aloadn hX 1 rfl rfl dX11_become_34 ?_
    refine xg_lift hX dX11_become_35 ?_
    refine xg_riders hX dX11_become_38 ?_
    refine g_iloadn hX 2 rfl rfl dX11_become_41 ?_
    refine g_iloadn hX 3 rfl rfl dX11_become_42 ?_
    refine g_iloadn hX 2 rfl rfl dX11_become_43 ?_
    refine g_eqW (app0 _) (g_callS (pre := xW X.E ad Q kv S) (mid := []) (post := []) [.int a2, .int a1] hX hq kw_RX11_X11_riderOf (c_X11_riderOf (a1 := a2) (a2 := a1)) (fun _ h => absurd h List.not_mem_nil) (by decide) (by decide) (by decide) rfl rfl (Nat.le_of_ble_eq_true rfl) dX11_become_44 (fun rv ws2 hp => ?_))
    obtain ⟨q, rfl, rfl⟩ := hp
    refine g_eqW (ws2 := xW X.E ad Q kv S ++ [(q, rcl (rdOf a2 a1))]) rfl ?_
    refine g_astqW hX 14 23 rfl rfl (kcl_rk _) hin k hk0 _ rfl dX11_become_47 ?_
    refine g_arrQ 14 (g := fun j => some (upQ Q k q j)) rfl (fun j _ => upQ_va j) (xW X.E ad (upQ Q k q) kv S ++ [(q, rcl (rdOf a2 a1))]) rfl ?_
    refine g_iloadn hX 0 rfl rfl dX11_become_48 ?_
    exact g_iret hX hq (by decide) (by decide) ⟨rfl, q, rfl⟩ dX11_become_49)
theorem kw_RX11_X4_copy : KwV RX11 261 RX4 yX4_copy cX4_copy 3 none 1 := ⟨mem_wsV wd_4_181 wd_4_182 wd_4_183 wd_1_2 wd_4_184, rfl, ⟨by decide +kernel, by decide +kernel, by decide +kernel⟩, by decide⟩
theorem c_X11_image_2 {l : Launch} {E : En} {ad bd Q P : Nat → Nat} {RD : Nat → Nat × Int32 × Int32 × Int32} (hRk : ∀ k, k < 6 → isRk (RD k).1) {S U : MS} : CP l E yX11_image cX11_image 1 (some .int) 3 0 0 (roL Q RD) [.ref (ad 10)] (xW E ad Q (.ref (bd 0)) S ++ lW E bd P U) (fun rv w => rv = some (.int (S.2 40 + 1)) ∧ w = xW E ad Q (.ref (bd 0)) (sF S 40 (S.2 40 + 1)) ++ lW E bd Q (cpS U S)) :=
  CP.of (lv := [(0, .ref (ad 10))]) (by decide +kernel) (Nat.le_of_ble_eq_true rfl) rfl (fun X hl hE hro hX hq hn => by
    subst hl; subst hE
    have hro2 : ∀ z ∈ roL Q RD, z ∈ X.ro := fun z hz => by rw [hro]; exact hz
    refine g_aloadn hX 0 rfl rfl dX11_image_0 ?_
    refine g_get (C := RX11) (T := TX11) (N := 6) hX inX11 10 rfl rfl 1 (by decide) wd_2_194 (fun _ h => h) rfl dX11_image_1 ?_
    refine g_ifnonnull hX 18 (by decide) dX11_image_4 ?_
    refine g_aloadn hX 0 rfl rfl dX11_image_18 ?_
    refine g_get (C := RX11) (T := TX11) (N := 6) hX inX11 10 rfl rfl 1 (by decide) wd_2_194 (fun _ h => h) rfl dX11_image_19 ?_
    refine g_aloadn hX 0 rfl rfl dX11_image_22 ?_
    refine g_get (C := RX11) (T := TX11) (N := 6) hX inX11 10 rfl rfl 0 (by decide) wd_2_193 (fun _ h => h) rfl dX11_image_23 ?_
    refine g_ws (ws2 := lW X.E bd P U ++ lW X.E ad Q S ++ bW X.E ad (.ref (bd 0)) S) [23, 24, 25, 26, 27, 28, 29, 30, 31, 32, 13, 14, 15, 16, 17, 18, 19, 20, 21, 22, 0, 1, 2, 3, 4, 5, 6, 7, 8, 9, 10, 11, 12] (by decide) rfl rfl ?_
    refine g_callV (pre := []) (mid := lW X.E bd P U ++ lW X.E ad Q S) (post := bW X.E ad (.ref (bd 0)) S) [.ref (ad 0)] hX hq kw_RX11_X4_copy (c_X4_copy hRk) hro2 (by decide) (by decide) (by decide) rfl (Recv.of 0 4 rfl rfl) rfl (Nat.le_of_ble_eq_true rfl) dX11_image_26 (fun rv ws2 hp => ?_)
    obtain ⟨rfl, rfl⟩ := hp
    refine g_ws (ws2 := xW X.E ad Q (.ref (bd 0)) S ++ lW X.E bd Q (cpS U S)) [20, 21, 22, 23, 24, 25, 26, 27, 28, 29, 30, 31, 32, 10, 11, 12, 13, 14, 15, 16, 17, 18, 19, 0, 1, 2, 3, 4, 5, 6, 7, 8, 9] (by decide) rfl rfl ?_
    refine g_aloadn hX 0 rfl rfl dX11_image_29 ?_
    refine g_dup hX rfl dX11_image_30 ?_
    refine g_get (C := RX11) (T := TX11) (N := 6) hX inX11 10 rfl rfl 2 (by decide) wd_2_195 (fun _ h => h) rfl dX11_image_31 ?_
    refine g_iconst hX (v := 1) (by decide) dX11_image_34 ?_
    refine g_iadd hX dX11_image_35 ?_
    refine g_put (C := RX11) (T := TX11) (N := 6) (ty := .int) hX inX11 tyX11 tyX11_ok nmX11 10 rfl rfl 2 (by decide) wd_2_195 (fun _ h => h) rfl (by decide +kernel) rfl rfl (Nat.le_of_ble_eq_true rfl) (xW X.E ad Q (.ref (bd 0)) (sF S 40 (S.2 40 + 1)) ++ lW X.E bd Q (cpS U S)) rfl dX11_image_36 ?_
    refine g_aloadn hX 0 rfl rfl dX11_image_39 ?_
    refine g_get (C := RX11) (T := TX11) (N := 6) hX inX11 10 rfl rfl 2 (by decide) wd_2_195 (fun _ h => h) rfl dX11_image_40 ?_
    exact g_iret hX hq (by decide) (by decide) ⟨rfl, rfl⟩ dX11_image_43)
theorem c_X11_image_1 {l : Launch} {E : En} {ad Q : Nat → Nat} {RD : Nat → Nat × Int32 × Int32 × Int32} (hRk : ∀ k, k < 6 → isRk (RD k).1) {S U : MS} {r : Int32} (hf : f_X4_workOutWorth RD0 L00 = some (r, U)) : CP l E yX11_image cX11_image 1 (some .int) 70 16 965 (roL Q RD) [.ref (ad 10)] (xW E ad Q .null S) (fun rv w => rv = some (.int (S.2 40 + 1)) ∧ ∃ bd : Nat → Nat, w = xW E ad Q (.ref (bd 0)) (sF S 40 (S.2 40 + 1)) ++ lW E bd Q (cpS U S)) :=
  CP.of (lv := [(0, .ref (ad 10))]) (by decide +kernel) (Nat.le_of_ble_eq_true rfl) rfl (fun X hl hE hro hX hq hn => by
    subst hl; subst hE
    have hro2 : ∀ z ∈ roL Q RD, z ∈ X.ro := fun z hz => by rw [hro]; exact hz
    refine g_aloadn hX 0 rfl rfl dX11_image_0 ?_
    refine g_get (C := RX11) (T := TX11) (N := 6) hX inX11 10 rfl rfl 1 (by decide) wd_2_194 (fun _ h => h) rfl dX11_image_1 ?_
    refine g_ifnonnullN hX dX11_image_4 ?_
    refine g_aloadn hX 0 rfl rfl dX11_image_7 ?_
    refine g_new (C := RX4) (T := TX4) (N := 16) (ci := 4) (fs := [.int 0, .int 0, .int 0, .int 0, .int 0, .int 0, .int 0, .null, .null, .int 0, .null, .int 0, .null, .null, .null, .null]) hX hq inX4 tyX4 tyX4_ok wd_1_31 wd_1_32 wd_1_2 rfl dfX4 (by decide) (by decide) dX11_image_8 (fun q => ?_)
    refine g_dup hX rfl dX11_image_11 ?_
    refine g_callI (pre := xW X.E ad Q .null S) (mid := [(q, .inr (4, [.int 0, .int 0, .int 0, .int 0, .int 0, .int 0, .int 0, .null, .null, .int 0, .null, .int 0, .null, .null, .null, .null]))]) (post := []) [] hX hq kwi_RX11_X4_init (c_X4_init hf) (fun _ h => absurd h List.not_mem_nil) (by decide) (by decide) (by decide) rfl rfl (Nat.le_of_ble_eq_true rfl) dX11_image_12 (fun rv ws2 hp => ?_)
    obtain ⟨rfl, bd, P, h0, rfl⟩ := hp
    subst h0
    refine g_put (C := RX11) (T := TX11) (N := 6) (ty := .object "LiftCredit$Lift") hX inX11 tyX11 tyX11_ok nmX11 10 rfl rfl 1 (by decide) wd_2_194 (fun _ h => h) rfl (by decide +kernel) rfl rfl (Nat.le_of_ble_eq_true rfl) (xW X.E ad Q (.ref (bd 0)) S ++ (lW X.E bd P U ++ roL P RD0)) rfl dX11_image_15 ?_
    refine g_aloadn hX 0 rfl rfl dX11_image_18 ?_
    refine g_get (C := RX11) (T := TX11) (N := 6) hX inX11 10 rfl rfl 1 (by decide) wd_2_194 (fun _ h => h) rfl dX11_image_19 ?_
    refine g_aloadn hX 0 rfl rfl dX11_image_22 ?_
    refine g_get (C := RX11) (T := TX11) (N := 6) hX inX11 10 rfl rfl 0 (by decide) wd_2_193 (fun _ h => h) rfl dX11_image_23 ?_
    refine g_ws (ws2 := lW X.E bd P U ++ lW X.E ad Q S ++ bW X.E ad (.ref (bd 0)) S) [23, 24, 25, 26, 27, 28, 29, 30, 31, 32, 13, 14, 15, 16, 17, 18, 19, 20, 21, 22, 0, 1, 2, 3, 4, 5, 6, 7, 8, 9, 10, 11, 12] (by decide) rfl rfl ?_
    refine g_callV (pre := []) (mid := lW X.E bd P U ++ lW X.E ad Q S) (post := bW X.E ad (.ref (bd 0)) S) [.ref (ad 0)] hX hq kw_RX11_X4_copy (c_X4_copy hRk) hro2 (by decide) (by decide) (by decide) rfl (Recv.of 0 4 rfl rfl) rfl (Nat.le_of_ble_eq_true rfl) dX11_image_26 (fun rv ws2 hp => ?_)
    obtain ⟨rfl, rfl⟩ := hp
    refine g_ws (ws2 := xW X.E ad Q (.ref (bd 0)) S ++ lW X.E bd Q (cpS U S)) [20, 21, 22, 23, 24, 25, 26, 27, 28, 29, 30, 31, 32, 10, 11, 12, 13, 14, 15, 16, 17, 18, 19, 0, 1, 2, 3, 4, 5, 6, 7, 8, 9] (by decide) rfl rfl ?_
    refine g_aloadn hX 0 rfl rfl dX11_image_29 ?_
    refine g_dup hX rfl dX11_image_30 ?_
    refine g_get (C := RX11) (T := TX11) (N := 6) hX inX11 10 rfl rfl 2 (by decide) wd_2_195 (fun _ h => h) rfl dX11_image_31 ?_
    refine g_iconst hX (v := 1) (by decide) dX11_image_34 ?_
    refine g_iadd hX dX11_image_35 ?_
    refine g_put (C := RX11) (T := TX11) (N := 6) (ty := .int) hX inX11 tyX11 tyX11_ok nmX11 10 rfl rfl 2 (by decide) wd_2_195 (fun _ h => h) rfl (by decide +kernel) rfl rfl (Nat.le_of_ble_eq_true rfl) (xW X.E ad Q (.ref (bd 0)) (sF S 40 (S.2 40 + 1)) ++ lW X.E bd Q (cpS U S)) rfl dX11_image_36 ?_
    refine g_aloadn hX 0 rfl rfl dX11_image_39 ?_
    refine g_get (C := RX11) (T := TX11) (N := 6) hX inX11 10 rfl rfl 2 (by decide) wd_2_195 (fun _ h => h) rfl dX11_image_40 ?_
    exact g_iret hX hq (by decide) (by decide) ⟨rfl, bd, rfl⟩ dX11_image_43)
theorem c_X11_restore_2 {l : Launch} {E : En} {ad bd Q P : Nat → Nat} {RD : Nat → Nat × Int32 × Int32 × Int32} (hRk : ∀ k, k < 6 → isRk (RD k).1) {S U : MS} : CP l E yX11_restore cX11_restore 1 (some .int) 3 0 0 (roL P RD) [.ref (ad 10)] (xW E ad Q (.ref (bd 0)) S ++ lW E bd P U) (fun rv w => rv = some (.int (U.2 3)) ∧ w = xW E ad P (.ref (bd 0)) (cpS S U) ++ lW E bd P U) :=
  CP.of (lv := [(0, .ref (ad 10))]) (by decide +kernel) (Nat.le_of_ble_eq_true rfl) rfl (fun X hl hE hro hX hq hn => by
    subst hl; subst hE
    have hro2 : ∀ z ∈ roL P RD, z ∈ X.ro := fun z hz => by rw [hro]; exact hz
    refine g_aloadn hX 0 rfl rfl dX11_restore_0 ?_
    refine g_get (C := RX11) (T := TX11) (N := 6) hX inX11 10 rfl rfl 1 (by decide) wd_2_194 (fun _ h => h) rfl dX11_restore_1 ?_
    refine g_ifnonnull hX 13 (by decide) dX11_restore_4 ?_
    refine g_aloadn hX 0 rfl rfl dX11_restore_13 ?_
    refine g_get (C := RX11) (T := TX11) (N := 6) hX inX11 10 rfl rfl 0 (by decide) wd_2_193 (fun _ h => h) rfl dX11_restore_14 ?_
    refine g_aloadn hX 0 rfl rfl dX11_restore_17 ?_
    refine g_get (C := RX11) (T := TX11) (N := 6) hX inX11 10 rfl rfl 1 (by decide) wd_2_194 (fun _ h => h) rfl dX11_restore_18 ?_
    refine g_callV (pre := bW X.E ad (.ref (bd 0)) S) (mid := lW X.E ad Q S ++ lW X.E bd P U) (post := []) [.ref (bd 0)] hX hq kw_RX11_X4_copy (c_X4_copy hRk) hro2 (by decide) (by decide) (by decide) rfl (Recv.of 13 4 rfl rfl) rfl (Nat.le_of_ble_eq_true rfl) dX11_restore_21 (fun rv ws2 hp => ?_)
    obtain ⟨rfl, rfl⟩ := hp
    refine g_eqW (ws2 := xW X.E ad P (.ref (bd 0)) (cpS S U) ++ lW X.E bd P U) rfl ?_
    refine g_aloadn hX 0 rfl rfl dX11_restore_24 ?_
    refine g_get (C := RX11) (T := TX11) (N := 6) hX inX11 10 rfl rfl 0 (by decide) wd_2_193 (fun _ h => h) rfl dX11_restore_25 ?_
    refine g_get (C := RX4) (T := TX4) (N := 16) hX inX4 13 rfl rfl 3 (by decide) wd_2_101 (fun _ h => h) rfl dX11_restore_28 ?_
    exact g_iret hX hq (by decide) (by decide) ⟨rfl, rfl⟩ dX11_restore_31)
theorem c_X11_restore_1 {l : Launch} {E : En} {ad Q : Nat → Nat} {RD : Nat → Nat × Int32 × Int32 × Int32} (hRk : ∀ k, k < 6 → isRk (RD k).1) {S S2 : MS} {r : Int32} (hf : f_X11_error RD 2 S = some (r, S2)) : CP l E yX11_restore cX11_restore 1 (some .int) 3 0 0 (roL Q RD) [.ref (ad 10)] (xW E ad Q .null S) (fun rv w => rv = some (.int r) ∧ w = xW E ad Q .null S2) :=
  CP.of (lv := [(0, .ref (ad 10))]) (by decide +kernel) (Nat.le_of_ble_eq_true rfl) rfl (fun X hl hE hro hX hq hn => by
    subst hl; subst hE
    have hro2 : ∀ z ∈ roL Q RD, z ∈ X.ro := fun z hz => by rw [hro]; exact hz
    refine g_aloadn hX 0 rfl rfl dX11_restore_0 ?_
    refine g_get (C := RX11) (T := TX11) (N := 6) hX inX11 10 rfl rfl 1 (by decide) wd_2_194 (fun _ h => h) rfl dX11_restore_1 ?_
    refine g_ifnonnullN hX dX11_restore_4 ?_
    refine g_aloadn hX 0 rfl rfl dX11_restore_7 ?_
    refine g_iconst hX (v := 2) (by decide) dX11_restore_8 ?_
    refine k_X11_error hro2 hX hq (c_X11_error hRk hf) (by decide) (by decide) (by decide) (Nat.le_of_ble_eq_true rfl) dX11_restore_9 ?_
    exact g_iret hX hq (by decide) (by decide) ⟨rfl, rfl⟩ dX11_restore_12)
