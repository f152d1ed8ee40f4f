def f_X2_gives (i : Nat) (F : Nat → Int32) (a1 : Int32) (a2 : Int32) (a3 : Int32) (S : MS) : Option (Int32 × MS) :=
  cb (f_X2_read i F (S.2 0) (sF (sF (sF S 4 a1) 5 a2) 6 a3)) fun r2 S3 =>
  cs (f_X11_held r2 (-99) 99) fun r4 =>
  some (r4, S3)
set_option maxRecDepth 100000 in
set_option maxHeartbeats 4000000 in
theorem t_X2_gives_0 {X : Cx} {ad : Nat → Nat} {i : Nat} {F : Nat → Int32} (hi : i < 4) {q0 : Nat} {PostX : Option Value → va_W → Prop} (hX : Ok X cX2_gives 4 RX2) (hq : Rq X 67 0 0 (some .int) PostX) {u : (Int32 × MS)} (hp : PostX (some (.int u.1)) (pW X.E ad i (ad 1) (ad 1) F u.2)) (a1 : Int32) (a2 : Int32) (a3 : Int32) (S : MS) (hf : f_X2_gives i F a1 a2 a3 S = some u) : G X 4 0 0 0 [(0, .ref (ad 0)), (1, .int a1), (2, .int a2), (3, .int a3)] [] (pW X.E ad i (ad 1) q0 F S) := by
  unfold f_X2_gives at hf
  refine g_aloadn hX 0 rfl rfl dX2_gives_0 ?_
  refine g_iloadn hX 1 rfl rfl dX2_gives_1 ?_
  refine pp_first hX dX2_gives_2 ?_
  refine g_aloadn hX 0 rfl rfl dX2_gives_5 ?_
  refine g_iloadn hX 2 rfl rfl dX2_gives_6 ?_
  refine pp_second hX dX2_gives_7 ?_
  refine g_aloadn hX 0 rfl rfl dX2_gives_10 ?_
  refine g_iloadn hX 3 rfl rfl dX2_gives_11 ?_
  refine pp_third hX dX2_gives_12 ?_
  refine g_aloadn hX 0 rfl rfl dX2_gives_15 ?_
  refine g_aloadn hX 0 rfl rfl dX2_gives_16 ?_
  refine pg_text hX dX2_gives_17 ?_
  refine g_aloadn hX 0 rfl rfl dX2_gives_20 ?_
  refine pg_length hX (v := S.2 0) rfl dX2_gives_21 ?_
  obtain ⟨r2, S3, h1, hf⟩ := cb_open hf
  refine g_eqW (app1 _) (g_callV (pre := []) (mid := pW X.E ad i (ad 1) q0 F (sF (sF (sF S 4 a1) 5 a2) 6 a3)) (post := []) [.ref (ad 1), .int (S.2 0)] hX hq kw_RX2_X2_read (c_X2_read hi h1) (fun _ h => absurd h List.not_mem_nil) (by decide) (by decide) (by decide) rfl (Recv.of 0 2 rfl rfl) rfl (Nat.le_of_ble_eq_true rfl) dX2_gives_24 (fun rv ws2 hp2 => ?_))
  obtain ⟨rfl, rfl⟩ := hp2
  refine g_eqW (app1 _).symm ?_
  refine g_bipush hX (v := (-99)) (by decide) dX2_gives_27 ?_
  refine g_bipush hX (v := 99) (by decide) dX2_gives_29 ?_
  obtain ⟨r4, h5, hf⟩ := cs_open hf
  refine k_RX2_X11_held hX hq h5 (by decide) (by decide) (by decide) (Nat.le_of_ble_eq_true rfl) dX2_gives_31 ?_
  obtain rfl := oi hf
  exact g_iret hX hq (by decide) (by decide) hp dX2_gives_34
theorem c_X2_gives {l : Launch} {E : En} {ad : Nat → Nat} {i q0 : Nat} {F : Nat → Int32} (hi : i < 4) {a1 a2 a3 r : Int32} {S S2 : MS} (hf : f_X2_gives i F a1 a2 a3 S = some (r, S2)) : CP l E yX2_gives cX2_gives 4 (some .int) 67 0 0 [] [.ref (ad 0), .int a1, .int a2, .int a3] (pW E ad i (ad 1) q0 F S) (fun rv w => rv = some (.int r) ∧ w = pW E ad i (ad 1) (ad 1) F S2) :=
  CP.of (lv := [(0, .ref (ad 0)), (1, .int a1), (2, .int a2), (3, .int a3)]) (by decide +kernel) (Nat.le_of_ble_eq_true rfl) rfl (fun X hl hE hro hX hq hn => by subst hl; subst hE; exact t_X2_gives_0 hi hX hq ⟨rfl, rfl⟩ a1 a2 a3 S hf)
abbrev tkW (E : En) (ad : Nat → Nat) (i qr : Nat) (F : Nat → Int32) (S : MS) : va_W := [(ad 0, .inr (2, [.ref (E.aK i), .ref (ad 2), .int (S.2 0), .ref qr, .int (S.2 1), .int (S.2 2), .int (S.2 3), .int (S.2 4), .int (S.2 5), .int (S.2 6)])), (ad 1, .inl (E.cB, 50, .inl F)), (ad 2, .inl (E.cB, 50, .inl (S.1 2)))]
def tkJ (S S2 : MS) : MS := (S.1, S2.2)
/-- n bytes of F come to the text -/
def tkC (F : Nat → Int32) (S : MS) (n : Int32) : MS := (fun c => if c = 2 then va_cpy F (S.1 2) 0 0 n.toNatClampNeg else S.1 c, S.2)
def gle {α : Type} (x : Int32) (n : Nat) (k : Option α) : Option α := if 0 ≤ x.toInt ∧ x.toInt ≤ n then k else none
theorem gle_open {α : Type} {x : Int32} {n : Nat} {k : Option α} {u : α} (h : gle x n k = some u) : (¬ x < 0 ∧ x.toNatClampNeg ≤ n) ∧ k = some u := by
  unfold gle at h
  by_cases q : 0 ≤ x.toInt ∧ x.toInt ≤ n
  · rw [if_pos q] at h
    refine ⟨⟨fun c => ?_, ?_⟩, h⟩
    · have c2 : x.toInt < (0 : Int32).toInt := Int32.lt_iff_toInt_lt.mp c
      have e0 : (0 : Int32).toInt = 0 := rfl
      omega
    · show x.toInt.toNat ≤ n
      omega
  · rw [if_neg q] at h
    cases h
/-- System.arraycopy of numbers -/
theorem g_copyi {X : Cx} {cc : ByteArray} {nL ce sl pc : Nat} {own : String} {lv : List (Nat × Value)} {st : List Value} {ws : va_W} {dX mcX msX : Nat} {retX : Option FieldType} {PostX : Option Value → va_W → Prop} (hX : Ok X cc nL own) (hq : Rq X dX mcX msX retX PostX) {idx : Nat} (hlink : Cond.methodLink own idx arraycopyName ∈ wU) (hd : 0 < dX) (q0 q1 t0 : Nat) {a0 a1 : Nat} {cA : ClassId} {n0 n1 : Nat} {f g : Nat → Int32} {ty : FieldType} (ha0 : ws[q0]? = some (a0, .inl (cA, n0, .inl f))) (ha1 : ws[q1]? = some (a1, .inl (cA, n1, .inl g))) (ht0 : X.E.tys[t0]? = some (cA, ty)) (hprim : refKind ty = false)
    {sp dp n : Int32} (h1 : ¬ sp < 0) (h2 : ¬ dp < 0) (h3 : ¬ n < 0) (h4 : sp.toNatClampNeg + n.toNatClampNeg ≤ n0) (h5 : dp.toNatClampNeg + n.toNatClampNeg ≤ n1) (hfit : ∀ i, i < n.toNatClampNeg → fits ty (.int (f (sp.toNatClampNeg + i))) = true) (hcat : (st.map fun v => v.category).sum ≤ 8) (ws' : va_W) (hws : ws.set q1 (a1, .inl (cA, n1, .inl (va_cpy f g sp.toNatClampNeg dp.toNatClampNeg n.toNatClampNeg))) = ws') (hdg : decode cc pc = .ok (.invokestatic idx, 3))
    (kk : G X nL ce sl (pc + 3) lv st ws') : G X nL ce sl pc lv (.int n :: .int dp :: .ref a1 :: .int sp :: .ref a0 :: st) ws :=
  fun H locs ls hP hD hS h => va_copyi (D := X.E.D) (cl := vwCl) hX.hx hX.hb (by rw [hX.hml]; exact h.1.symm) hX.hown (hX.hts _ hlink) (hX.hts _ wd_3_157) (hX.hts _ wd_3_156) (hX.hts _ wd_1_21) hX.hK hP hD hS q0 q1 t0 t0 ha0 ha1 ht0 ht0 hprim h1 h2 h3 h4 h5 hfit (by rw [hq.1]; exact hd) (by
    rw [hq.1]
    have e : nativeFrameWords "java/lang/System" "arraycopy" 5 + 11 ≤ 56 := by decide +kernel
    show _ ≤ 64 * dX
    omega) hdg (fun H1 locs1 hP1 hD1 hS1 => kk H1 locs1 ls (hws ▸ hP1) (hws ▸ hD1) hS1 h)
section TKR
variable {X : Cx} {cc : ByteArray} {nL ce sl pc : Nat} {lv : List (Nat × Value)} {st : List Value} {ad : Nat → Nat} {S : MS} {dX mcX msX : Nat} {retX : Option FieldType} {PostX : Option Value → va_W → Prop} {i q0 : Nat} {F : Nat → Int32}
theorem kg_text (hX : Ok X cc nL RX2) (hdg : decode cc pc = .ok (.getfield 9, 3)) (kk : G X nL ce sl (pc + 3) lv (.ref (ad 2) :: st) (tkW X.E ad i q0 F S)) : G X nL ce sl pc lv (.ref (ad 0) :: st) (tkW X.E ad i q0 F S) := g_get (C := RX2) (T := TX2) (N := 10) hX inX2 0 rfl rfl 1 (by decide) wd_1_99 (fun _ h => h) rfl hdg kk
theorem kg_length (hX : Ok X cc nL RX2) {v : Int32} (hv : S.2 0 = v) (hdg : decode cc pc = .ok (.getfield 15, 3)) (kk : G X nL ce sl (pc + 3) lv (.int v :: st) (tkW X.E ad i q0 F S)) : G X nL ce sl pc lv (.ref (ad 0) :: st) (tkW X.E ad i q0 F S) := by
  subst hv
  exact g_get (C := RX2) (T := TX2) (N := 10) hX inX2 0 rfl rfl 2 (by decide) wd_1_100 (fun _ h => h) rfl hdg kk
theorem kp_length (hX : Ok X cc nL RX2) {v : Int32} (hdg : decode cc pc = .ok (.putfield 15, 3)) (kk : G X nL ce sl (pc + 3) lv st (tkW X.E ad i q0 F (sF S 0 v))) : G X nL ce sl pc lv (.int v :: .ref (ad 0) :: st) (tkW X.E ad i q0 F S) := g_put (C := RX2) (T := TX2) (N := 10) (ty := .int) hX inX2 tyX2 tyX2_ok nmX2 0 rfl rfl 2 (by decide) wd_1_100 (fun _ h => h) rfl (by decide +kernel) rfl rfl (Nat.le_of_ble_eq_true rfl) (tkW X.E ad i q0 F (sF S 0 v)) rfl hdg kk
theorem kg_end (hX : Ok X cc nL RX2) {v : Int32} (hv : S.2 1 = v) (hdg : decode cc pc = .ok (.getfield 22, 3)) (kk : G X nL ce sl (pc + 3) lv (.int v :: st) (tkW X.E ad i q0 F S)) : G X nL ce sl pc lv (.ref (ad 0) :: st) (tkW X.E ad i q0 F S) := by
  subst hv
  exact g_get (C := RX2) (T := TX2) (N := 10) hX inX2 0 rfl rfl 4 (by decide) wd_1_102 (fun _ h => h) rfl hdg kk
theorem kp_end (hX : Ok X cc nL RX2) {v : Int32} (hdg : decode cc pc = .ok (.putfield 22, 3)) (kk : G X nL ce sl (pc + 3) lv st (tkW X.E ad i q0 F (sF S 1 v))) : G X nL ce sl pc lv (.int v :: .ref (ad 0) :: st) (tkW X.E ad i q0 F S) := g_put (C := RX2) (T := TX2) (N := 10) (ty := .int) hX inX2 tyX2 tyX2_ok nmX2 0 rfl rfl 4 (by decide) wd_1_102 (fun _ h => h) rfl (by decide +kernel) rfl rfl (Nat.le_of_ble_eq_true rfl) (tkW X.E ad i q0 F (sF S 1 v)) rfl hdg kk
theorem kg_place (hX : Ok X cc nL RX2) {v : Int32} (hv : S.2 2 = v) (hdg : decode cc pc = .ok (.getfield 25, 3)) (kk : G X nL ce sl (pc + 3) lv (.int v :: st) (tkW X.E ad i q0 F S)) : G X nL ce sl pc lv (.ref (ad 0) :: st) (tkW X.E ad i q0 F S) := by
  subst hv
  exact g_get (C := RX2) (T := TX2) (N := 10) hX inX2 0 rfl rfl 5 (by decide) wd_1_103 (fun _ h => h) rfl hdg kk
theorem kp_place (hX : Ok X cc nL RX2) {v : Int32} (hdg : decode cc pc = .ok (.putfield 25, 3)) (kk : G X nL ce sl (pc + 3) lv st (tkW X.E ad i q0 F (sF S 2 v))) : G X nL ce sl pc lv (.int v :: .ref (ad 0) :: st) (tkW X.E ad i q0 F S) := g_put (C := RX2) (T := TX2) (N := 10) (ty := .int) hX inX2 tyX2 tyX2_ok nmX2 0 rfl rfl 5 (by decide) wd_1_103 (fun _ h => h) rfl (by decide +kernel) rfl rfl (Nat.le_of_ble_eq_true rfl) (tkW X.E ad i q0 F (sF S 2 v)) rfl hdg kk
theorem kg_faulty (hX : Ok X cc nL RX2) {v : Int32} (hv : S.2 3 = v) (hdg : decode cc pc = .ok (.getfield 28, 3)) (kk : G X nL ce sl (pc + 3) lv (.int v :: st) (tkW X.E ad i q0 F S)) : G X nL ce sl pc lv (.ref (ad 0) :: st) (tkW X.E ad i q0 F S) := by
  subst hv
  exact g_get (C := RX2) (T := TX2) (N := 10) hX inX2 0 rfl rfl 6 (by decide) wd_1_104 (fun _ h => h) rfl hdg kk
theorem kp_faulty (hX : Ok X cc nL RX2) {v : Int32} (hz : v = 0 ∨ v = 1) (hdg : decode cc pc = .ok (.putfield 28, 3)) (kk : G X nL ce sl (pc + 3) lv st (tkW X.E ad i q0 F (sF S 3 v))) : G X nL ce sl pc lv (.int v :: .ref (ad 0) :: st) (tkW X.E ad i q0 F S) := g_put (C := RX2) (T := TX2) (N := 10) (ty := .boolean) hX inX2 tyX2 tyX2_ok nmX2 0 rfl rfl 6 (by decide) wd_1_104 (fun _ h => h) rfl (by decide +kernel) (nar_z hz) (by rcases hz with rfl | rfl <;> rfl) (Nat.le_of_ble_eq_true rfl) (tkW X.E ad i q0 F (sF S 3 v)) rfl hdg kk
theorem k_copyT (hX : Ok X cc nL RX2) (hq : Rq X dX mcX msX retX PostX) (hd : 0 < dX) (hfit : ∀ j : Nat, fits .byte (.int (F j)) = true) {n : Int32} (hn : ¬ n < 0 ∧ n.toNatClampNeg ≤ 50) (hdg : decode cc pc = .ok (.invokestatic 60, 3)) (kk : G X nL ce sl (pc + 3) lv [] (tkW X.E ad i q0 F (tkC F S n))) : G X nL ce sl pc lv [.int n, .int 0, .ref (ad 2), .int 0, .ref (ad 1)] (tkW X.E ad i q0 F S) :=
  g_copyi (ty := .byte) hX hq wd_3_155 hd 1 2 1 rfl rfl rfl rfl (by decide) (by decide) hn.1 (by show 0 + _ ≤ 50; have := hn.2; omega) (by show 0 + _ ≤ 50; have := hn.2; omega) (fun j _ => hfit _) (Nat.le_of_ble_eq_true rfl) (tkW X.E ad i q0 F (tkC F S n)) rfl hdg kk
end TKR
def f_X2_take (i : Nat) (F : Nat → Int32) (a2 : Int32) (S : MS) : Option (Int32 × MS) :=
  cb (f_X2_read i F a2 S) fun r2 S3 =>
  if (((tkJ S S3).2 3) = 0 : Prop) then
    bI (jmin ((tkJ S S3).2 1) 50) fun v5 =>
    gle v5 50 <|
    some ((-1), (tkC F (sF (tkJ S S3) 0 v5) v5))
  else
    some (((tkJ S S3).2 2), (tkJ S S3))
set_option maxRecDepth 100000 in
set_option maxHeartbeats 4000000 in
theorem t_X2_take_0 {X : Cx} {ad : Nat → Nat} {i : Nat} {F : Nat → Int32} (hi : i < 4) {q0 : Nat} (hfit : ∀ j : Nat, fits .byte (.int (F j)) = true) {PostX : Option Value → va_W → Prop} (hX : Ok X cX2_take 3 RX2) (hq : Rq X 67 0 0 (some .int) PostX) {u : (Int32 × MS)} (hp : PostX (some (.int u.1)) (tkW X.E ad i (ad 1) F u.2)) (a2 : Int32) (S : MS) (hf : f_X2_take i F a2 S = some u) : G X 3 0 0 0 [(0, .ref (ad 0)), (1, .ref (ad 1)), (2, .int a2)] [] (tkW X.E ad i q0 F S) := by
  unfold f_X2_take at hf
  refine g_aloadn hX 0 rfl rfl dX2_take_0 ?_
  refine g_aloadn hX 1 rfl rfl dX2_take_1 ?_
  refine g_iloadn hX 2 rfl rfl dX2_take_2 ?_
  obtain ⟨r2, S3, h1, hf⟩ := cb_open hf
  refine g_callV (pre := []) (mid := pW X.E ad i (ad 2) q0 F S) (post := [(ad 2, .inl (X.E.cB, 50, .inl (S.1 2)))]) [.ref (ad 1), .int a2] hX hq kw_RX2_X2_read (c_X2_read (ad := ad) hi h1) (fun _ h => absurd h List.not_mem_nil) (by decide) (by decide) (by decide) rfl (Recv.of 0 2 rfl rfl) rfl (Nat.le_of_ble_eq_true rfl) dX2_take_3 (fun rv ws2 hp2 => ?_)
  obtain ⟨rfl, rfl⟩ := hp2
  refine g_eqW (ws2 := tkW X.E ad i (ad 1) F (tkJ S S3)) rfl ?_
  refine g_pop hX rfl dX2_take_6 ?_
  refine g_aloadn hX 0 rfl rfl dX2_take_7 ?_
  refine kg_faulty hX (v := (tkJ S S3).2 3) rfl dX2_take_8 ?_
  refine g_if_eq hX 19 (by decide) dX2_take_11 (fun c4 => ?_) (fun c4 => ?_)
  · have hf := ite_t c4 hf
    refine g_aloadn hX 0 rfl rfl dX2_take_19 ?_
    refine g_aloadn hX 0 rfl rfl dX2_take_20 ?_
    refine kg_end hX (v := (tkJ S S3).2 1) rfl dX2_take_21 ?_
    refine g_bipush hX (v := 50) (by decide) dX2_take_24 ?_
    refine g_jmin hX hq km_RX2_min (by decide) (by decide) (by decide) (Nat.le_of_ble_eq_true rfl) dX2_take_26 ?_
    obtain ⟨v5, ev5, hf⟩ := bI_open hf
    refine g_nm ev5 ?_
    refine kp_length hX dX2_take_29 ?_
    refine g_aloadn hX 1 rfl rfl dX2_take_32 ?_
    refine g_iconst hX (v := 0) (by decide) dX2_take_33 ?_
    refine g_aloadn hX 0 rfl rfl dX2_take_34 ?_
    refine kg_text hX dX2_take_35 ?_
    refine g_iconst hX (v := 0) (by decide) dX2_take_38 ?_
    refine g_aloadn hX 0 rfl rfl dX2_take_39 ?_
    refine kg_length hX (v := v5) rfl dX2_take_40 ?_
    obtain ⟨h6, hf⟩ := gle_open hf
    refine k_copyT hX hq (by decide) hfit h6 dX2_take_43 ?_
    refine g_iconst hX (v := (-1)) (by decide) dX2_take_46 ?_
    obtain rfl := oi hf
    exact g_iret hX hq (by decide) (by decide) hp dX2_take_47
  · have hf := ite_f c4 hf
    refine g_aloadn hX 0 rfl rfl dX2_take_14 ?_
    refine kg_place hX (v := (tkJ S S3).2 2) rfl dX2_take_15 ?_
    obtain rfl := oi hf
    exact g_iret hX hq (by decide) (by decide) hp dX2_take_18
theorem c_X2_take {l : Launch} {E : En} {ad : Nat → Nat} {i q0 : Nat} {F : Nat → Int32} (hi : i < 4) (hfit : ∀ j : Nat, fits .byte (.int (F j)) = true) {a2 r : Int32} {S S2 : MS} (hf : f_X2_take i F a2 S = some (r, S2)) : CP l E yX2_take cX2_take 3 (some .int) 67 0 0 [] [.ref (ad 0), .ref (ad 1), .int a2] (tkW E ad i q0 F S) (fun rv w => rv = some (.int r) ∧ w = tkW E ad i (ad 1) F S2) :=
  CP.of (lv := [(0, .ref (ad 0)), (1, .ref (ad 1)), (2, .int a2)]) (by decide +kernel) (Nat.le_of_ble_eq_true rfl) rfl (fun X hl hE hro hX hq hn => by subst hl; subst hE; exact t_X2_take_0 hi hfit hX hq ⟨rfl, rfl⟩ a2 S hf)
