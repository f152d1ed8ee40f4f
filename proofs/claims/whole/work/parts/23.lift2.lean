theorem g_ialdR {X : Cx} {cc : ByteArray} {nL ce sl pc : Nat} {own : String} {lv : List (Nat × Value)} {st : List Value} {ws : va_W} (hX : Ok X cc nL own) {a n : Nat} {f : Nat → Int32} (ha : (a, .inl (X.E.cI, n, .inl f)) ∈ X.ro) {i : Int32} (hin : vp_in i n) (j : Nat) (hj : i.toNatClampNeg = j) (hdg : decode cc pc = .ok (.iaload, 1)) (kk : G X nL ce sl (pc + 1) lv (.int (f j) :: st) ws) : G X nL ce sl pc lv (.int i :: .ref a :: st) ws := by
  intro H locs ls hP hD hS h
  obtain ⟨k, hk⟩ := List.getElem?_of_mem ha
  exact va_iald (D := X.E.D) (cl := vwCl) hX.hx hX.hb hX.hK (hX.roP hS) k 0 hk rfl hin hdg (hj ▸ kk H locs ls hP hD hS h)
theorem c_X4_lawOf0 {l : Launch} {E : En} {ad Q : Nat → Nat} {S : MS} {u : Int32} (h : u = 0) : CP l E yX4_lawOf cX4_lawOf 2 (some (.object RX2)) 0 0 0 [] [.ref (ad 0), .int u] (lW E ad Q S) (fun rv w => rv = some (.ref (ad 5)) ∧ w = lW E ad Q S) :=
  CP.of (lv := [(0, .ref (ad 0)), (1, .int u)]) (by decide +kernel) (Nat.le_of_ble_eq_true rfl) rfl (fun X hl hE hro hX hq hn => by
    subst hl; subst hE
    refine g_iloadn hX 1 rfl rfl dX4_lawOf_0 ?_
    refine g_if_ne hX 11 (by decide) dX4_lawOf_1 (fun c => absurd h c) (fun _ => ?_)
    refine g_aloadn hX 0 rfl rfl dX4_lawOf_4 ?_
    refine lg_creditLaw hX dX4_lawOf_5 ?_
    refine g_goto hX 15 (by decide) dX4_lawOf_8 ?_
    exact g_aret hX hq (by decide) (by decide) ⟨rfl, rfl⟩ dX4_lawOf_15)
theorem c_X4_lawOf1 {l : Launch} {E : En} {ad Q : Nat → Nat} {S : MS} {u : Int32} (h : ¬ u = 0) : CP l E yX4_lawOf cX4_lawOf 2 (some (.object RX2)) 0 0 0 [] [.ref (ad 0), .int u] (lW E ad Q S) (fun rv w => rv = some (.ref (ad 7)) ∧ w = lW E ad Q S) :=
  CP.of (lv := [(0, .ref (ad 0)), (1, .int u)]) (by decide +kernel) (Nat.le_of_ble_eq_true rfl) rfl (fun X hl hE hro hX hq hn => by
    subst hl; subst hE
    refine g_iloadn hX 1 rfl rfl dX4_lawOf_0 ?_
    refine g_if_ne hX 11 (by decide) dX4_lawOf_1 (fun _ => ?_) (fun c => absurd c h)
    refine g_aloadn hX 0 rfl rfl dX4_lawOf_11 ?_
    refine lg_crowdLaw hX dX4_lawOf_12 ?_
    exact g_aret hX hq (by decide) (by decide) ⟨rfl, rfl⟩ dX4_lawOf_15)
theorem kw_RX4_X4_lawOf : KwV RX4 96 RX4 yX4_lawOf cX4_lawOf 2 (some (.object RX2)) 1 := ⟨mem_wsV wd_3_147 wd_3_148 wd_3_149 wd_1_2 wd_3_150, rfl, ⟨by decide +kernel, by decide +kernel, by decide +kernel⟩, by decide⟩
theorem kw_RX4_X2_take : KwV RX4 100 RX2 yX2_take cX2_take 3 (some .int) 2 := ⟨mem_wsV wd_3_151 wd_3_152 wd_3_153 wd_1_3 wd_3_154, rfl, ⟨by decide +kernel, by decide +kernel, by decide +kernel⟩, by decide⟩
theorem tpF_b (S : MS) (j : Nat) : ji2b (tpF S j) = tpF S j := ji2b_2 (S.1 2 j)
theorem tpF_fit (S : MS) (j : Nat) : fits .byte (.int (tpF S j)) = true := ji2b_fit (S.1 2 j)
theorem tkV_b (i : Nat) (S : MS) (j : Nat) : ji2b ((tkV i S).1 2 j) = (tkV i S).1 2 j := ji2b_2 (S.1 (5 + i) j)
section LWT
variable {X : Cx} {cc : ByteArray} {nL ce sl pc : Nat} {lv : List (Nat × Value)} {st : List Value} {ad : Nat → Nat} {S : MS} {dX mcX msX : Nat} {retX : Option FieldType} {PostX : Option Value → va_W → Prop} {Q : Nat → Nat} {RD : Nat → Nat × Int32 × Int32 × Int32}
theorem kl_lawOf0 (hro : ∀ z ∈ roL Q RD, z ∈ X.ro) (hX : Ok X cc nL RX4) (hq : Rq X dX mcX msX retX PostX) {u : Int32} (h : u = 0) (hd : 0 < dX) (hc : ce ≤ mcX) (hs : sl ≤ msX) (hcat : (st.map fun v => v.category).sum ≤ 8) (hdg : decode cc pc = .ok (.invokevirtual 96, 3)) (kk : G X nL ce sl (pc + 3) lv (.ref (ad 5) :: st) (lW X.E ad Q S)) : G X nL ce sl pc lv (.int u :: .ref (ad 0) :: st) (lW X.E ad Q S) :=
  g_eqW (app1 _) (g_callV (pre := []) (mid := lW X.E ad Q S) (post := []) [.int u] hX hq kw_RX4_X4_lawOf (c_X4_lawOf0 h) (fun _ h => absurd h List.not_mem_nil) hd hc hs rfl (Recv.of 0 4 rfl rfl) rfl hcat hdg (fun rv ws2 hp => by obtain ⟨rfl, rfl⟩ := hp; exact g_eqW (app1 _).symm kk))
def aT0 (ad : Nat → Nat) : Nat → Nat := fun k => if k = 0 then ad 5 else if k = 1 then ad 3 else ad 6
theorem kl_take0 (hX : Ok X cc nL RX4) (hq : Rq X dX mcX msX retX PostX) {a r : Int32} {S2 : MS} (h : f_X2_take 0 (tpF S) a (tkV 0 S) = some (r, S2)) (hd : 67 < dX) (hc : ce ≤ mcX) (hs : sl ≤ msX) (hcat : (st.map fun v => v.category).sum ≤ 8) (hdg : decode cc pc = .ok (.invokevirtual 100, 3)) (kk : G X nL ce sl (pc + 3) lv (.int r :: st) (lW X.E ad Q (tvJ 0 S S2))) : G X nL ce sl pc lv (.int a :: .ref (ad 3) :: .ref (ad 5) :: st) (lW X.E ad Q S) := by
  have hb := take_bytes (F := tpF S) (S := tkV 0 S) (tpF_b S) (tkV_b 0 S) h
  refine g_ws (ws2 := List.take 5 ([0, 1, 2, 3, 4, 6, 5, 7, 8, 9].filterMap (fun i => (lW X.E ad Q S)[i]?)) ++ (tkW X.E (aT0 ad) 0 (rowq (S.2 27) (ad 6) (ad 3)) (tpF S) (tkV 0 S) ++ List.drop 8 ([0, 1, 2, 3, 4, 6, 5, 7, 8, 9].filterMap (fun i => (lW X.E ad Q S)[i]?)))) [0, 1, 2, 3, 4, 6, 5, 7, 8, 9] (by decide) rfl rfl ?_
  refine g_callV (pre := List.take 5 ([0, 1, 2, 3, 4, 6, 5, 7, 8, 9].filterMap (fun i => (lW X.E ad Q S)[i]?))) (mid := tkW X.E (aT0 ad) 0 (rowq (S.2 27) (ad 6) (ad 3)) (tpF S) (tkV 0 S)) (post := List.drop 8 ([0, 1, 2, 3, 4, 6, 5, 7, 8, 9].filterMap (fun i => (lW X.E ad Q S)[i]?))) [.ref (ad 3), .int a] hX hq kw_RX4_X2_take (c_X2_take (ad := aT0 ad) (by decide) (tpF_fit S) h) (fun _ h => absurd h List.not_mem_nil) hd hc hs rfl (Recv.of 5 2 rfl rfl) rfl hcat hdg (fun rv ws2 hp => ?_)
  obtain ⟨rfl, rfl⟩ := hp
  refine g_arrX 7 (f := S2.1 2) (g := fun k => ji2b (S2.1 2 k)) rfl (fun j _ => (hb j).symm) _ rfl ?_
  exact g_ws (ws2 := lW X.E ad Q (tvJ 0 S S2)) [0, 1, 2, 3, 4, 6, 5, 7, 8, 9] (by decide) rfl rfl kk
theorem kl_lawOf1 (hro : ∀ z ∈ roL Q RD, z ∈ X.ro) (hX : Ok X cc nL RX4) (hq : Rq X dX mcX msX retX PostX) {u : Int32} (h : ¬ u = 0) (hd : 0 < dX) (hc : ce ≤ mcX) (hs : sl ≤ msX) (hcat : (st.map fun v => v.category).sum ≤ 8) (hdg : decode cc pc = .ok (.invokevirtual 96, 3)) (kk : G X nL ce sl (pc + 3) lv (.ref (ad 7) :: st) (lW X.E ad Q S)) : G X nL ce sl pc lv (.int u :: .ref (ad 0) :: st) (lW X.E ad Q S) :=
  g_eqW (app1 _) (g_callV (pre := []) (mid := lW X.E ad Q S) (post := []) [.int u] hX hq kw_RX4_X4_lawOf (c_X4_lawOf1 h) (fun _ h => absurd h List.not_mem_nil) hd hc hs rfl (Recv.of 0 4 rfl rfl) rfl hcat hdg (fun rv ws2 hp => by obtain ⟨rfl, rfl⟩ := hp; exact g_eqW (app1 _).symm kk))
def aT1 (ad : Nat → Nat) : Nat → Nat := fun k => if k = 0 then ad 7 else if k = 1 then ad 3 else ad 8
theorem kl_take1 (hX : Ok X cc nL RX4) (hq : Rq X dX mcX msX retX PostX) {a r : Int32} {S2 : MS} (h : f_X2_take 2 (tpF S) a (tkV 1 S) = some (r, S2)) (hd : 67 < dX) (hc : ce ≤ mcX) (hs : sl ≤ msX) (hcat : (st.map fun v => v.category).sum ≤ 8) (hdg : decode cc pc = .ok (.invokevirtual 100, 3)) (kk : G X nL ce sl (pc + 3) lv (.int r :: st) (lW X.E ad Q (tvJ 1 S S2))) : G X nL ce sl pc lv (.int a :: .ref (ad 3) :: .ref (ad 7) :: st) (lW X.E ad Q S) := by
  have hb := take_bytes (F := tpF S) (S := tkV 1 S) (tpF_b S) (tkV_b 1 S) h
  refine g_ws (ws2 := List.take 7 ([0, 1, 2, 3, 4, 6, 7, 8, 5, 9].filterMap (fun i => (lW X.E ad Q S)[i]?)) ++ (tkW X.E (aT1 ad) 2 (rowq (S.2 37) (ad 8) (ad 3)) (tpF S) (tkV 1 S) ++ List.drop 10 ([0, 1, 2, 3, 4, 6, 7, 8, 5, 9].filterMap (fun i => (lW X.E ad Q S)[i]?)))) [0, 1, 2, 3, 4, 6, 7, 8, 5, 9] (by decide) rfl rfl ?_
  refine g_callV (pre := List.take 7 ([0, 1, 2, 3, 4, 6, 7, 8, 5, 9].filterMap (fun i => (lW X.E ad Q S)[i]?))) (mid := tkW X.E (aT1 ad) 2 (rowq (S.2 37) (ad 8) (ad 3)) (tpF S) (tkV 1 S)) (post := List.drop 10 ([0, 1, 2, 3, 4, 6, 7, 8, 5, 9].filterMap (fun i => (lW X.E ad Q S)[i]?))) [.ref (ad 3), .int a] hX hq kw_RX4_X2_take (c_X2_take (ad := aT1 ad) (by decide) (tpF_fit S) h) (fun _ h => absurd h List.not_mem_nil) hd hc hs rfl (Recv.of 7 2 rfl rfl) rfl hcat hdg (fun rv ws2 hp => ?_)
  obtain ⟨rfl, rfl⟩ := hp
  refine g_arrX 9 (f := S2.1 2) (g := fun k => ji2b (S2.1 2 k)) rfl (fun j _ => (hb j).symm) _ rfl ?_
  exact g_ws (ws2 := lW X.E ad Q (tvJ 1 S S2)) [0, 1, 2, 3, 4, 8, 5, 6, 7, 9] (by decide) rfl rfl kk
end LWT
theorem km_RX4_min : KwM RX4 166 Lib.Math.min.name Lib.Math.min.code := ⟨wd_3_180, wd_1_58, wd_1_5, wd_1_59⟩
def f_X4_credit (RD : Nat → Nat × Int32 × Int32 × Int32) (a1 : Int32) (a2 : Int32) (a3 : Int32) (S : MS) : Option (Int32 × MS) :=
  cs (f_X11_asHeard a2 a3) fun r1 =>
  cs (f_X11_otherWay a2 a3) fun r3 =>
  cs (f_X11_unheard a2 a3) fun r5 =>
  gix a1 6 fun k7 =>
  cs (fv_counted (RD k7) r3) fun r8 =>
  cs (f_X11_placeOf r1 r8 r5) fun r10 =>
  gix r10 729 fun k12 =>
  cs (fv_credit (RD k7) (S.1 4 k12) r1 r3 r5) fun r13 =>
  some (r13, S)
set_option maxRecDepth 100000 in
set_option maxHeartbeats 4000000 in
theorem t_X4_credit_0 {X : Cx} {ad Q : Nat → Nat} {RD : Nat → Nat × Int32 × Int32 × Int32} (hro : ∀ z ∈ roL Q RD, z ∈ X.ro) {PostX : Option Value → va_W → Prop} (hX : Ok X cX4_credit 8 RX4) (hq : Rq X 4 0 0 (some .int) PostX) {u : (Int32 × MS)} (hp : PostX (some (.int u.1)) (lW X.E ad Q u.2)) (a1 : Int32) (a2 : Int32) (a3 : Int32) (S : MS) (hf : f_X4_credit RD a1 a2 a3 S = some u) : G X 8 0 0 0 [(0, .ref (ad 0)), (1, .int a1), (2, .int a2), (3, .int a3)] [] (lW X.E ad Q S) := by
  unfold f_X4_credit at hf
  refine g_iloadn hX 2 rfl rfl dX4_credit_0 ?_
  refine g_iloadn hX 3 rfl rfl dX4_credit_1 ?_
  obtain ⟨r1, h2, hf⟩ := cs_open hf
  refine k_RX4_X11_asHeard hX hq h2 (by decide) (by decide) (by decide) (Nat.le_of_ble_eq_true rfl) dX4_credit_2 ?_
  refine g_istore hX [(4, .int r1), (0, .ref (ad 0)), (1, .int a1), (2, .int a2), (3, .int a3)] (by decide) rfl dX4_credit_5 ?_
  refine g_iloadn hX 3 rfl rfl dX4_credit_7 ?_
  refine g_iloadn hX 4 rfl rfl dX4_credit_8 ?_
  obtain ⟨r3, h4, hf⟩ := cs_open hf
  refine k_RX4_X11_otherWay hX hq h4 (by decide) (by decide) (by decide) (Nat.le_of_ble_eq_true rfl) dX4_credit_9 ?_
  refine g_istore hX [(5, .int r3), (4, .int r1), (0, .ref (ad 0)), (1, .int a1), (2, .int a2), (3, .int a3)] (by decide) rfl dX4_credit_12 ?_
  refine g_iloadn hX 4 rfl rfl dX4_credit_14 ?_
  refine g_iloadn hX 5 rfl rfl dX4_credit_15 ?_
  obtain ⟨r5, h6, hf⟩ := cs_open hf
  refine k_RX4_X11_unheard hX hq h6 (by decide) (by decide) (by decide) (Nat.le_of_ble_eq_true rfl) dX4_credit_16 ?_
  refine g_istore hX [(6, .int r5), (5, .int r3), (4, .int r1), (0, .ref (ad 0)), (1, .int a1), (2, .int a2), (3, .int a3)] (by decide) rfl dX4_credit_19 ?_
  refine g_aloadn hX 3 rfl rfl dX4_credit_21 ?_
  refine lg_riders hX dX4_credit_22 ?_
  refine g_iloadn hX 4 rfl rfl dX4_credit_25 ?_
  obtain ⟨k7, jk7, ik7, hf⟩ := gix_open hf
  refine ll_riders hX ik7 k7 jk7 dX4_credit_26 ?_
  refine g_astore hX [(7, .ref (Q k7)), (6, .int r5), (5, .int r3), (4, .int r1), (0, .ref (ad 0)), (1, .int a1), (2, .int a2), (3, .int a3)] (by decide) rfl dX4_credit_27 ?_
  refine g_aload hX 0 rfl dX4_credit_29 ?_
  refine g_aloadn hX 4 rfl rfl dX4_credit_31 ?_
  refine lg_worth hX dX4_credit_32 ?_
  refine g_iload hX 3 rfl dX4_credit_35 ?_
  refine g_aload hX 0 rfl dX4_credit_37 ?_
  refine g_iload hX 2 rfl dX4_credit_39 ?_
  obtain ⟨r8, h9, hf⟩ := cs_open hf
  refine kv_RX4_counted hro (vp_lt ik7 jk7) hX hq h9 (by decide) (by decide) (by decide) (Nat.le_of_ble_eq_true rfl) dX4_credit_41 ?_
  refine g_iload hX 1 rfl dX4_credit_44 ?_
  obtain ⟨r10, h11, hf⟩ := cs_open hf
  refine k_RX4_X11_placeOf hX hq h11 (by decide) (by decide) (by decide) (Nat.le_of_ble_eq_true rfl) dX4_credit_46 ?_
  obtain ⟨k12, jk12, ik12, hf⟩ := gix_open hf
  refine ll_worth hX ik12 k12 jk12 (v := S.1 4 k12) rfl dX4_credit_49 ?_
  refine g_iload hX 3 rfl dX4_credit_50 ?_
  refine g_iload hX 2 rfl dX4_credit_52 ?_
  refine g_iload hX 1 rfl dX4_credit_54 ?_
  obtain ⟨r13, h14, hf⟩ := cs_open hf
  refine kv_RX4_credit hro (vp_lt ik7 jk7) hX hq h14 (by decide) (by decide) (by decide) (Nat.le_of_ble_eq_true rfl) dX4_credit_56 ?_
  obtain rfl := oi hf
  exact g_iret hX hq (by decide) (by decide) hp dX4_credit_59
theorem c_X4_credit {l : Launch} {E : En} {ad Q : Nat → Nat} {RD : Nat → Nat × Int32 × Int32 × Int32} {a1 : Int32} {a2 : Int32} {a3 : Int32} {r : Int32} {S S2 : MS} (hf : f_X4_credit RD a1 a2 a3 S = some (r, S2)) : CP l E yX4_credit cX4_credit 8 (some .int) 4 0 0 (roL Q RD) [.ref (ad 0), .int a1, .int a2, .int a3] (lW E ad Q S) (fun rv w => rv = some (.int r) ∧ w = lW E ad Q S2) :=
  CP.of (lv := [(0, .ref (ad 0)), (1, .int a1), (2, .int a2), (3, .int a3)]) (by decide +kernel) (Nat.le_of_ble_eq_true rfl) rfl (fun X hl hE hro hX hq hn => by subst hl; subst hE; exact t_X4_credit_0 (fun z hz => by rw [hro]; exact hz) hX hq ⟨rfl, rfl⟩ a1 a2 a3 S hf)
theorem kw_RX4_X4_credit : KwV RX4 129 RX4 yX4_credit cX4_credit 8 (some .int) 3 := ⟨mem_wsV wd_3_99 wd_3_49 wd_3_50 wd_1_2 wd_3_51, rfl, ⟨by decide +kernel, by decide +kernel, by decide +kernel⟩, by decide⟩
theorem k_X4_credit {X : Cx} {cc : ByteArray} {nL ce sl pc : Nat} {lv : List (Nat × Value)} {st : List Value} {dX mcX msX : Nat} {retX : Option FieldType} {PostX : Option Value → va_W → Prop} {ad Q : Nat → Nat} {RD : Nat → Nat × Int32 × Int32 × Int32} {S S2 : MS} {d : Nat} (hro : ∀ z ∈ roL Q RD, z ∈ X.ro) (hX : Ok X cc nL RX4) (hq : Rq X dX mcX msX retX PostX) {a1 : Int32} {a2 : Int32} {a3 : Int32} {r : Int32} (hM : CP X.l X.E yX4_credit cX4_credit 8 (some .int) d 0 0 (roL Q RD) [.ref (ad 0), .int a1, .int a2, .int a3] (lW X.E ad Q S) (fun rv w => rv = some (.int r) ∧ w = lW X.E ad Q S2)) (hd : d < dX) (hc : ce ≤ mcX) (hs : sl ≤ msX) (hcat : (st.map fun v => v.category).sum ≤ 8) (hdg : decode cc pc = .ok (.invokevirtual 129, 3)) (kk : G X nL ce sl (pc + 3) lv (.int r :: st) (lW X.E ad Q S2)) : G X nL ce sl pc lv (.int a3 :: .int a2 :: .int a1 :: .ref (ad 0) :: st) (lW X.E ad Q S) :=
  g_eqW (app1 _) (g_callV (pre := []) (mid := lW X.E ad Q S) (post := []) [.int a1, .int a2, .int a3] hX hq kw_RX4_X4_credit hM hro hd hc hs rfl (Recv.of 0 4 rfl rfl) rfl hcat hdg (fun rv ws2 hp => by obtain ⟨rfl, rfl⟩ := hp; exact g_eqW (app1 _).symm kk))
def f_X4_floor (RD : Nat → Nat × Int32 × Int32 × Int32) (a1 : Int32) (a2 : Int32) (a3 : Int32) (S : MS) : Option (Int32 × MS) :=
  if (a2 = 0 : Prop) then
    some ((-1), S)
  else
    cb (f_X4_credit RD a1 a2 a3 S) fun r4 S2 =>
    cs (f_X11_held r4 0 9) fun r5 =>
    some (r5, S2)
set_option maxRecDepth 100000 in
set_option maxHeartbeats 4000000 in
theorem t_X4_floor_0 {X : Cx} {ad Q : Nat → Nat} {RD : Nat → Nat × Int32 × Int32 × Int32} (hro : ∀ z ∈ roL Q RD, z ∈ X.ro) {PostX : Option Value → va_W → Prop} (hX : Ok X cX4_floor 4 RX4) (hq : Rq X 5 0 0 (some .int) PostX) {u : (Int32 × MS)} (hp : PostX (some (.int u.1)) (lW X.E ad Q u.2)) (a1 : Int32) (a2 : Int32) (a3 : Int32) (S : MS) (hf : f_X4_floor RD a1 a2 a3 S = some u) : G X 4 0 0 0 [(0, .ref (ad 0)), (1, .int a1), (2, .int a2), (3, .int a3)] [] (lW X.E ad Q S) := by
  unfold f_X4_floor at hf
  refine g_iloadn hX 2 rfl rfl dX4_floor_0 ?_
  refine g_if_ne hX 8 (by decide) dX4_floor_1 (fun c1 => ?_) (fun c1 => ?_)
  · have hf := ite_f c1 hf
    refine g_aloadn hX 0 rfl rfl dX4_floor_8 ?_
    refine g_iloadn hX 1 rfl rfl dX4_floor_9 ?_
    refine g_iloadn hX 2 rfl rfl dX4_floor_10 ?_
    refine g_iloadn hX 3 rfl rfl dX4_floor_11 ?_
    obtain ⟨r4, S2, h3, hf⟩ := cb_open hf
    refine k_X4_credit hro hX hq (c_X4_credit h3) (by decide) (by decide) (by decide) (Nat.le_of_ble_eq_true rfl) dX4_floor_12 ?_
    refine g_iconst hX (v := 0) (by decide) dX4_floor_15 ?_
    refine g_bipush hX (v := 9) (by decide) dX4_floor_16 ?_
    obtain ⟨r5, h6, hf⟩ := cs_open hf
    refine k_RX4_X11_held hX hq h6 (by decide) (by decide) (by decide) (Nat.le_of_ble_eq_true rfl) dX4_floor_18 ?_
    obtain rfl := oi hf
    exact g_iret hX hq (by decide) (by decide) hp dX4_floor_21
  · have hf := ite_t c1 hf
    refine g_iconst hX (v := (-1)) (by decide) dX4_floor_4 ?_
    refine g_goto hX 21 (by decide) dX4_floor_5 ?_
    obtain rfl := oi hf
    exact g_iret hX hq (by decide) (by decide) hp dX4_floor_21
theorem c_X4_floor {l : Launch} {E : En} {ad Q : Nat → Nat} {RD : Nat → Nat × Int32 × Int32 × Int32} {a1 : Int32} {a2 : Int32} {a3 : Int32} {r : Int32} {S S2 : MS} (hf : f_X4_floor RD a1 a2 a3 S = some (r, S2)) : CP l E yX4_floor cX4_floor 4 (some .int) 5 0 0 (roL Q RD) [.ref (ad 0), .int a1, .int a2, .int a3] (lW E ad Q S) (fun rv w => rv = some (.int r) ∧ w = lW E ad Q S2) :=
  CP.of (lv := [(0, .ref (ad 0)), (1, .int a1), (2, .int a2), (3, .int a3)]) (by decide +kernel) (Nat.le_of_ble_eq_true rfl) rfl (fun X hl hE hro hX hq hn => by subst hl; subst hE; exact t_X4_floor_0 (fun z hz => by rw [hro]; exact hz) hX hq ⟨rfl, rfl⟩ a1 a2 a3 S hf)
theorem kw_RX4_X4_floor : KwV RX4 144 RX4 yX4_floor cX4_floor 4 (some .int) 3 := ⟨mem_wsV wd_3_172 wd_3_96 wd_3_97 wd_1_2 wd_3_98, rfl, ⟨by decide +kernel, by decide +kernel, by decide +kernel⟩, by decide⟩
theorem k_X4_floor {X : Cx} {cc : ByteArray} {nL ce sl pc : Nat} {lv : List (Nat × Value)} {st : List Value} {dX mcX msX : Nat} {retX : Option FieldType} {PostX : Option Value → va_W → Prop} {ad Q : Nat → Nat} {RD : Nat → Nat × Int32 × Int32 × Int32} {S S2 : MS} {d : Nat} (hro : ∀ z ∈ roL Q RD, z ∈ X.ro) (hX : Ok X cc nL RX4) (hq : Rq X dX mcX msX retX PostX) {a1 : Int32} {a2 : Int32} {a3 : Int32} {r : Int32} (hM : CP X.l X.E yX4_floor cX4_floor 4 (some .int) d 0 0 (roL Q RD) [.ref (ad 0), .int a1, .int a2, .int a3] (lW X.E ad Q S) (fun rv w => rv = some (.int r) ∧ w = lW X.E ad Q S2)) (hd : d < dX) (hc : ce ≤ mcX) (hs : sl ≤ msX) (hcat : (st.map fun v => v.category).sum ≤ 8) (hdg : decode cc pc = .ok (.invokevirtual 144, 3)) (kk : G X nL ce sl (pc + 3) lv (.int r :: st) (lW X.E ad Q S2)) : G X nL ce sl pc lv (.int a3 :: .int a2 :: .int a1 :: .ref (ad 0) :: st) (lW X.E ad Q S) :=
  g_eqW (app1 _) (g_callV (pre := []) (mid := lW X.E ad Q S) (post := []) [.int a1, .int a2, .int a3] hX hq kw_RX4_X4_floor hM hro hd hc hs rfl (Recv.of 0 4 rfl rfl) rfl hcat hdg (fun rv ws2 hp => by obtain ⟨rfl, rfl⟩ := hp; exact g_eqW (app1 _).symm kk))
def f_X4_crowdFloor_55 (RD : Nat → Nat × Int32 × Int32 × Int32) (lp7 : Int32 → Int32 → Int32 → Int32 → MS → Option (Int32 × MS)) (x1 : Int32) (x2 : Int32) (x3 : Int32) (x4 : Int32) (S : MS) : Option (Int32 × MS) :=
  bI (x4 + 1) fun v13 =>
  lp7 x1 x2 x3 v13 S
def f_X4_crowdFloor_7 (RD : Nat → Nat × Int32 × Int32 × Int32) : Nat → Int32 → Int32 → Int32 → Int32 → MS → Option (Int32 × MS)
  | 0 => fun _ _ _ _ _ => none
  | n + 1 => fun x1 x2 x3 x4 S =>
    let lp7 := f_X4_crowdFloor_7 RD n
    if ((S.2 6) ≤ x4 : Prop) then
      if (x3 = 0 : Prop) then
        some ((-1), S)
      else
        cs (f_J6_bitCount_0f7a4 (x3 &&& (jshr x3 8))) fun r3 =>
        cs (f_J6_bitCount_0f7a4 x1) fun r5 =>
        cb (f_X2_gives 2 (lvF 1 S) x2 r5 r3 (lvS 1 S)) fun r7 S9 =>
        cs (f_X11_held r7 0 9) fun r10 =>
        some (r10, (lvJ 1 S S9))
    else
      if (((jshr x1 x4) &&& 1) = 0 : Prop) then
        f_X4_crowdFloor_55 RD lp7 x1 x2 x3 x4 S
      else
        gix x4 6 fun k14 =>
        cb (f_X4_credit RD x4 (S.1 1 k14) (S.2 0) S) fun r17 S15 =>
        bI (x2 + r17) fun v18 =>
        gix x4 6 fun k19 =>
        bI (x3 ||| (S15.1 1 k19)) fun v20 =>
        f_X4_crowdFloor_55 RD lp7 x1 v18 v20 x4 S15
def f_X4_crowdFloor (RD : Nat → Nat × Int32 × Int32 × Int32) (a1 : Int32) (S : MS) : Option (Int32 × MS) :=
  f_X4_crowdFloor_7 RD 100 a1 0 0 0 S
set_option maxRecDepth 100000 in
set_option maxHeartbeats 4000000 in
theorem t_X4_crowdFloor_55 {X : Cx} {ad Q : Nat → Nat} {RD : Nat → Nat × Int32 × Int32 × Int32} (hro : ∀ z ∈ roL Q RD, z ∈ X.ro) {PostX : Option Value → va_W → Prop} (hX : Ok X cX4_crowdFloor 6 RX4) (hq : Rq X 68 0 0 (some .int) PostX) {u : (Int32 × MS)} (hp : PostX (some (.int u.1)) (lW X.E ad Q u.2)) {lp7 : Int32 → Int32 → Int32 → Int32 → MS → Option (Int32 × MS)} (hlp7 : ∀ (x1 : Int32) (x2 : Int32) (x3 : Int32) (x4 : Int32) (S : MS), lp7 x1 x2 x3 x4 S = some u → G X 6 0 0 7 [(0, .ref (ad 0)), (1, .int x1), (2, .int x2), (3, .int x3), (4, .int x4)] [] (lW X.E ad Q S)) (x1 : Int32) (x2 : Int32) (x3 : Int32) (x4 : Int32) (S : MS) (hf : f_X4_crowdFloor_55 RD lp7 x1 x2 x3 x4 S = some u) : G X 6 0 0 55 [(0, .ref (ad 0)), (1, .int x1), (2, .int x2), (3, .int x3), (4, .int x4)] [] (lW X.E ad Q S) := by
  unfold f_X4_crowdFloor_55 at hf
  obtain ⟨v13, ev13, hf⟩ := bI_open hf
  refine g_iinc hX 4 (v := v13) [(4, .int v13), (0, .ref (ad 0)), (1, .int x1), (2, .int x2), (3, .int x3)] rfl (by rw [ev13]; rfl) (by decide) rfl dX4_crowdFloor_55 ?_
  refine g_goto hX 7 (by decide) dX4_crowdFloor_58 ?_
  refine g_lv [1, 2, 3, 4, 0] rfl ?_
  exact hlp7 _ _ _ _ _ hf
set_option maxRecDepth 100000 in
set_option maxHeartbeats 4000000 in
theorem t_X4_crowdFloor_7 {X : Cx} {ad Q : Nat → Nat} {RD : Nat → Nat × Int32 × Int32 × Int32} (hro : ∀ z ∈ roL Q RD, z ∈ X.ro) {PostX : Option Value → va_W → Prop} (hX : Ok X cX4_crowdFloor 6 RX4) (hq : Rq X 68 0 0 (some .int) PostX) {u : (Int32 × MS)} (hp : PostX (some (.int u.1)) (lW X.E ad Q u.2)) : ∀ (n : Nat) (x1 : Int32) (x2 : Int32) (x3 : Int32) (x4 : Int32) (S : MS), f_X4_crowdFloor_7 RD n x1 x2 x3 x4 S = some u → G X 6 0 0 7 [(0, .ref (ad 0)), (1, .int x1), (2, .int x2), (3, .int x3), (4, .int x4)] [] (lW X.E ad Q S) := by
  intro n
  induction n with
  | zero => intro _ _ _ _ _ hf; unfold f_X4_crowdFloor_7 at hf; cases hf
  | succ n hlp7 =>
  intro x1 x2 x3 x4 S hf
  unfold f_X4_crowdFloor_7 at hf
  refine g_iload hX 4 rfl dX4_crowdFloor_7 ?_
  refine g_aloadn hX 0 rfl rfl dX4_crowdFloor_9 ?_
  refine lg_riderCount hX (v := S.2 6) rfl dX4_crowdFloor_10 ?_
  refine g_icmp_ge hX 61 (by decide) dX4_crowdFloor_13 (fun c1 => ?_) (fun c1 => ?_)
  · have hf := ite_t c1 hf
    refine g_iloadn hX 3 rfl rfl dX4_crowdFloor_61 ?_
    refine g_if_ne hX 67 (by decide) dX4_crowdFloor_62 (fun c2 => ?_) (fun c2 => ?_)
    · have hf := ite_f c2 hf
      refine g_iloadn hX 3 rfl rfl dX4_crowdFloor_67 ?_
      refine g_iloadn hX 3 rfl rfl dX4_crowdFloor_68 ?_
      refine g_bipush hX (v := 8) (by decide) dX4_crowdFloor_69 ?_
      refine g_jshr hX dX4_crowdFloor_71 ?_
      refine g_iand hX dX4_crowdFloor_72 ?_
      obtain ⟨r3, h4, hf⟩ := cs_open hf
      refine k_RX4_J6_bitCount_0f7a4 hX hq h4 (by decide) (by decide) (by decide) (Nat.le_of_ble_eq_true rfl) dX4_crowdFloor_73 ?_
      refine g_istore hX [(4, .int r3), (0, .ref (ad 0)), (1, .int x1), (2, .int x2), (3, .int x3)] (by decide) rfl dX4_crowdFloor_76 ?_
      refine g_aloadn hX 1 rfl rfl dX4_crowdFloor_78 ?_
      refine lg_crowdLaw hX dX4_crowdFloor_79 ?_
      refine g_iloadn hX 3 rfl rfl dX4_crowdFloor_82 ?_
      refine g_iloadn hX 2 rfl rfl dX4_crowdFloor_83 ?_
      obtain ⟨r5, h6, hf⟩ := cs_open hf
      refine k_RX4_J6_bitCount_0f7a4 hX hq h6 (by decide) (by decide) (by decide) (Nat.le_of_ble_eq_true rfl) dX4_crowdFloor_84 ?_
      refine g_iload hX 0 rfl dX4_crowdFloor_87 ?_
      obtain ⟨r7, S9, h8, hf⟩ := cb_open hf
      refine kl_gives1 hX hq h8 (by decide) (by decide) (by decide) (Nat.le_of_ble_eq_true rfl) dX4_crowdFloor_89 ?_
      refine g_istore hX [(5, .int r7), (4, .int r3), (0, .ref (ad 0)), (1, .int x1), (2, .int x2), (3, .int x3)] (by decide) rfl dX4_crowdFloor_92 ?_
      refine g_iload hX 0 rfl dX4_crowdFloor_94 ?_
      refine g_iconst hX (v := 0) (by decide) dX4_crowdFloor_96 ?_
      refine g_bipush hX (v := 9) (by decide) dX4_crowdFloor_97 ?_
      obtain ⟨r10, h11, hf⟩ := cs_open hf
      refine k_RX4_X11_held hX hq h11 (by decide) (by decide) (by decide) (Nat.le_of_ble_eq_true rfl) dX4_crowdFloor_99 ?_
      obtain rfl := oi hf
      exact g_iret hX hq (by decide) (by decide) hp dX4_crowdFloor_102
    · have hf := ite_t c2 hf
      refine g_iconst hX (v := (-1)) (by decide) dX4_crowdFloor_65 ?_
      obtain rfl := oi hf
      exact g_iret hX hq (by decide) (by decide) hp dX4_crowdFloor_66
  · have hf := ite_f c1 hf
    refine g_iloadn hX 1 rfl rfl dX4_crowdFloor_16 ?_
    refine g_iload hX 4 rfl dX4_crowdFloor_17 ?_
    refine g_jshr hX dX4_crowdFloor_19 ?_
    refine g_iconst hX (v := 1) (by decide) dX4_crowdFloor_20 ?_
    refine g_iand hX dX4_crowdFloor_21 ?_
    refine g_if_eq hX 55 (by decide) dX4_crowdFloor_22 (fun c12 => ?_) (fun c12 => ?_)
    · have hf := ite_t c12 hf
      exact t_X4_crowdFloor_55 hro hX hq hp hlp7 _ _ _ _ _ hf
    · have hf := ite_f c12 hf
      refine g_iloadn hX 2 rfl rfl dX4_crowdFloor_25 ?_
      refine g_aloadn hX 0 rfl rfl dX4_crowdFloor_26 ?_
      refine g_iload hX 4 rfl dX4_crowdFloor_27 ?_
      refine g_aloadn hX 0 rfl rfl dX4_crowdFloor_29 ?_
      refine lg_stories hX dX4_crowdFloor_30 ?_
      refine g_iload hX 4 rfl dX4_crowdFloor_33 ?_
      obtain ⟨k14, jk14, ik14, hf⟩ := gix_open hf
      refine ll_stories hX ik14 k14 jk14 (v := S.1 1 k14) rfl dX4_crowdFloor_35 ?_
      refine g_aloadn hX 0 rfl rfl dX4_crowdFloor_36 ?_
      refine lg_heard hX (v := S.2 0) rfl dX4_crowdFloor_37 ?_
      obtain ⟨r17, S15, h16, hf⟩ := cb_open hf
      refine k_X4_credit hro hX hq (c_X4_credit h16) (by decide) (by decide) (by decide) (Nat.le_of_ble_eq_true rfl) dX4_crowdFloor_40 ?_
      refine g_iadd hX dX4_crowdFloor_43 ?_
      obtain ⟨v18, ev18, hf⟩ := bI_open hf
      refine g_nm ev18 ?_
      refine g_istoren hX [(2, .int v18), (0, .ref (ad 0)), (1, .int x1), (3, .int x3), (4, .int x4)] rfl (by decide) rfl dX4_crowdFloor_44 ?_
      refine g_iloadn hX 3 rfl rfl dX4_crowdFloor_45 ?_
      refine g_aloadn hX 1 rfl rfl dX4_crowdFloor_46 ?_
      refine lg_stories hX dX4_crowdFloor_47 ?_
      refine g_iload hX 4 rfl dX4_crowdFloor_50 ?_
      obtain ⟨k19, jk19, ik19, hf⟩ := gix_open hf
      refine ll_stories hX ik19 k19 jk19 (v := S15.1 1 k19) rfl dX4_crowdFloor_52 ?_
      refine g_ior hX dX4_crowdFloor_53 ?_
      obtain ⟨v20, ev20, hf⟩ := bI_open hf
      refine g_nm ev20 ?_
      refine g_istoren hX [(3, .int v20), (2, .int v18), (0, .ref (ad 0)), (1, .int x1), (4, .int x4)] rfl (by decide) rfl dX4_crowdFloor_54 ?_
      refine g_lv [2, 3, 1, 0, 4] rfl ?_
      exact t_X4_crowdFloor_55 hro hX hq hp hlp7 _ _ _ _ _ hf
set_option maxRecDepth 100000 in
set_option maxHeartbeats 4000000 in
theorem t_X4_crowdFloor_0 {X : Cx} {ad Q : Nat → Nat} {RD : Nat → Nat × Int32 × Int32 × Int32} (hro : ∀ z ∈ roL Q RD, z ∈ X.ro) {PostX : Option Value → va_W → Prop} (hX : Ok X cX4_crowdFloor 6 RX4) (hq : Rq X 68 0 0 (some .int) PostX) {u : (Int32 × MS)} (hp : PostX (some (.int u.1)) (lW X.E ad Q u.2)) (a1 : Int32) (S : MS) (hf : f_X4_crowdFloor RD a1 S = some u) : G X 6 0 0 0 [(0, .ref (ad 0)), (1, .int a1)] [] (lW X.E ad Q S) := by
  unfold f_X4_crowdFloor at hf
  refine g_iconst hX (v := 0) (by decide) dX4_crowdFloor_0 ?_
  refine g_istoren hX [(2, .int 0), (0, .ref (ad 0)), (1, .int a1)] rfl (by decide) rfl dX4_crowdFloor_1 ?_
  refine g_iconst hX (v := 0) (by decide) dX4_crowdFloor_2 ?_
  refine g_istoren hX [(3, .int 0), (2, .int 0), (0, .ref (ad 0)), (1, .int a1)] rfl (by decide) rfl dX4_crowdFloor_3 ?_
  refine g_iconst hX (v := 0) (by decide) dX4_crowdFloor_4 ?_
  refine g_istore hX [(4, .int 0), (3, .int 0), (2, .int 0), (0, .ref (ad 0)), (1, .int a1)] (by decide) rfl dX4_crowdFloor_5 ?_
  refine g_lv [3, 4, 2, 1, 0] rfl ?_
  exact t_X4_crowdFloor_7 hro hX hq hp _ _ _ _ _ _ hf
theorem c_X4_crowdFloor {l : Launch} {E : En} {ad Q : Nat → Nat} {RD : Nat → Nat × Int32 × Int32 × Int32} {a1 : Int32} {r : Int32} {S S2 : MS} (hf : f_X4_crowdFloor RD a1 S = some (r, S2)) : CP l E yX4_crowdFloor cX4_crowdFloor 6 (some .int) 68 0 0 (roL Q RD) [.ref (ad 0), .int a1] (lW E ad Q S) (fun rv w => rv = some (.int r) ∧ w = lW E ad Q S2) :=
  CP.of (lv := [(0, .ref (ad 0)), (1, .int a1)]) (by decide +kernel) (Nat.le_of_ble_eq_true rfl) rfl (fun X hl hE hro hX hq hn => by subst hl; subst hE; exact t_X4_crowdFloor_0 (fun z hz => by rw [hro]; exact hz) hX hq ⟨rfl, rfl⟩ a1 S hf)
def f_X4_afterRide_61 (RD : Nat → Nat × Int32 × Int32 × Int32) (x2 : Int32) (x5 : Int32) (y0 : Int32) (S : MS) : Option (Int32 × MS) :=
  some (((x2 &&& (y0 ^^^ (-1))) ||| x5), S)
def f_X4_afterRide (RD : Nat → Nat × Int32 × Int32 × Int32) (a1 : Int32) (a2 : Int32) (S : MS) : Option (Int32 × MS) :=
  gix a1 6 fun k1 =>
  bI (S.1 1 k1) fun v2 =>
  cb (f_X4_floor RD a1 v2 a2 S) fun r5 S3 =>
  if ((S3.2 2) ≤ r5 : Prop) then
    cs (f_X11_factsOf a2) fun r7 =>
    cs (f_X11_bothWays r7) fun r9 =>
    bI (v2 &&& (r9 ^^^ (-1))) fun v11 =>
    if (r5 < (2 * (S3.2 2)) : Prop) then
      f_X4_afterRide_61 RD a2 v11 0 S3
    else
      cs (f_X11_turned v2) fun r13 =>
      f_X4_afterRide_61 RD a2 v11 (a2 &&& r13) S3
  else
    some (a2, S3)
set_option maxRecDepth 100000 in
set_option maxHeartbeats 4000000 in
theorem t_X4_afterRide_61 {X : Cx} {ad Q : Nat → Nat} {RD : Nat → Nat × Int32 × Int32 × Int32} (hro : ∀ z ∈ roL Q RD, z ∈ X.ro) {PostX : Option Value → va_W → Prop} (hX : Ok X cX4_afterRide 7 RX4) (hq : Rq X 6 0 0 (some .int) PostX) {u : (Int32 × MS)} (hp : PostX (some (.int u.1)) (lW X.E ad Q u.2)) (x2 : Int32) (x5 : Int32) (y0 : Int32) (S : MS) (hf : f_X4_afterRide_61 RD x2 x5 y0 S = some u) : G X 7 0 0 61 [(0, .ref (ad 0)), (2, .int x2), (5, .int x5)] [.int y0] (lW X.E ad Q S) := by
  unfold f_X4_afterRide_61 at hf
  refine g_istore hX [(6, .int y0), (0, .ref (ad 0)), (2, .int x2), (5, .int x5)] (by decide) rfl dX4_afterRide_61 ?_
  refine g_iloadn hX 2 rfl rfl dX4_afterRide_63 ?_
  refine g_iload hX 0 rfl dX4_afterRide_64 ?_
  refine g_iconst hX (v := (-1)) (by decide) dX4_afterRide_66 ?_
  refine g_ixor hX dX4_afterRide_67 ?_
  refine g_iand hX dX4_afterRide_68 ?_
  refine g_iload hX 3 rfl dX4_afterRide_69 ?_
  refine g_ior hX dX4_afterRide_71 ?_
  obtain rfl := oi hf
  exact g_iret hX hq (by decide) (by decide) hp dX4_afterRide_72
set_option maxRecDepth 100000 in
set_option maxHeartbeats 4000000 in
theorem t_X4_afterRide_0 {X : Cx} {ad Q : Nat → Nat} {RD : Nat → Nat × Int32 × Int32 × Int32} (hro : ∀ z ∈ roL Q RD, z ∈ X.ro) {PostX : Option Value → va_W → Prop} (hX : Ok X cX4_afterRide 7 RX4) (hq : Rq X 6 0 0 (some .int) PostX) {u : (Int32 × MS)} (hp : PostX (some (.int u.1)) (lW X.E ad Q u.2)) (a1 : Int32) (a2 : Int32) (S : MS) (hf : f_X4_afterRide RD a1 a2 S = some u) : G X 7 0 0 0 [(0, .ref (ad 0)), (1, .int a1), (2, .int a2)] [] (lW X.E ad Q S) := by
  unfold f_X4_afterRide at hf
  refine g_aloadn hX 0 rfl rfl dX4_afterRide_0 ?_
  refine lg_stories hX dX4_afterRide_1 ?_
  refine g_iloadn hX 1 rfl rfl dX4_afterRide_4 ?_
  obtain ⟨k1, jk1, ik1, hf⟩ := gix_open hf
  refine ll_stories hX ik1 k1 jk1 (v := S.1 1 k1) rfl dX4_afterRide_5 ?_
  obtain ⟨v2, ev2, hf⟩ := bI_open hf
  refine g_nm ev2 ?_
  refine g_istoren hX [(3, .int v2), (0, .ref (ad 0)), (1, .int a1), (2, .int a2)] rfl (by decide) rfl dX4_afterRide_6 ?_
  refine g_aloadn hX 1 rfl rfl dX4_afterRide_7 ?_
  refine g_iloadn hX 2 rfl rfl dX4_afterRide_8 ?_
  refine g_iloadn hX 0 rfl rfl dX4_afterRide_9 ?_
  refine g_iloadn hX 3 rfl rfl dX4_afterRide_10 ?_
  obtain ⟨r5, S3, h4, hf⟩ := cb_open hf
  refine k_X4_floor hro hX hq (c_X4_floor h4) (by decide) (by decide) (by decide) (Nat.le_of_ble_eq_true rfl) dX4_afterRide_11 ?_
  refine g_istore hX [(4, .int r5), (3, .int v2), (0, .ref (ad 0)), (1, .int a1), (2, .int a2)] (by decide) rfl dX4_afterRide_14 ?_
  refine g_iload hX 0 rfl dX4_afterRide_16 ?_
  refine g_aloadn hX 2 rfl rfl dX4_afterRide_18 ?_
  refine lg_trust hX (v := S3.2 2) rfl dX4_afterRide_19 ?_
  refine g_icmp_ge hX 27 (by decide) dX4_afterRide_22 (fun c6 => ?_) (fun c6 => ?_)
  · have hf := ite_t c6 hf
    refine g_iloadn hX 1 rfl rfl dX4_afterRide_27 ?_
    refine g_iloadn hX 4 rfl rfl dX4_afterRide_28 ?_
    obtain ⟨r7, h8, hf⟩ := cs_open hf
    refine k_RX4_X11_factsOf hX hq h8 (by decide) (by decide) (by decide) (Nat.le_of_ble_eq_true rfl) dX4_afterRide_29 ?_
    obtain ⟨r9, h10, hf⟩ := cs_open hf
    refine k_RX4_X11_bothWays hX hq h10 (by decide) (by decide) (by decide) (Nat.le_of_ble_eq_true rfl) dX4_afterRide_32 ?_
    refine g_iconst hX (v := (-1)) (by decide) dX4_afterRide_35 ?_
    refine g_ixor hX dX4_afterRide_36 ?_
    refine g_iand hX dX4_afterRide_37 ?_
    obtain ⟨v11, ev11, hf⟩ := bI_open hf
    refine g_nm ev11 ?_
    refine g_istore hX [(5, .int v11), (4, .int r5), (3, .int v2), (0, .ref (ad 0)), (1, .int a1), (2, .int a2)] (by decide) rfl dX4_afterRide_38 ?_
    refine g_iload hX 1 rfl dX4_afterRide_40 ?_
    refine g_iconst hX (v := 2) (by decide) dX4_afterRide_42 ?_
    refine g_aloadn hX 3 rfl rfl dX4_afterRide_43 ?_
    refine lg_trust hX (v := S3.2 2) rfl dX4_afterRide_44 ?_
    refine g_imul hX dX4_afterRide_47 ?_
    refine g_icmp_lt hX 60 (by decide) dX4_afterRide_48 (fun c12 => ?_) (fun c12 => ?_)
    · have hf := ite_t c12 hf
      refine g_iconst hX (v := 0) (by decide) dX4_afterRide_60 ?_
      refine g_lv [3, 5, 0] rfl ?_
      exact t_X4_afterRide_61 hro hX hq hp _ _ _ _ hf
    · have hf := ite_f c12 hf
      refine g_iloadn hX 5 rfl rfl dX4_afterRide_51 ?_
      refine g_iloadn hX 2 rfl rfl dX4_afterRide_52 ?_
      obtain ⟨r13, h14, hf⟩ := cs_open hf
      refine k_RX4_X11_turned hX hq h14 (by decide) (by decide) (by decide) (Nat.le_of_ble_eq_true rfl) dX4_afterRide_53 ?_
      refine g_iand hX dX4_afterRide_56 ?_
      refine g_goto hX 61 (by decide) dX4_afterRide_57 ?_
      refine g_lv [3, 5, 0] rfl ?_
      exact t_X4_afterRide_61 hro hX hq hp _ _ _ _ hf
  · have hf := ite_f c6 hf
    refine g_iloadn hX 4 rfl rfl dX4_afterRide_25 ?_
    obtain rfl := oi hf
    exact g_iret hX hq (by decide) (by decide) hp dX4_afterRide_26
theorem c_X4_afterRide {l : Launch} {E : En} {ad Q : Nat → Nat} {RD : Nat → Nat × Int32 × Int32 × Int32} {a1 : Int32} {a2 : Int32} {r : Int32} {S S2 : MS} (hf : f_X4_afterRide RD a1 a2 S = some (r, S2)) : CP l E yX4_afterRide cX4_afterRide 7 (some .int) 6 0 0 (roL Q RD) [.ref (ad 0), .int a1, .int a2] (lW E ad Q S) (fun rv w => rv = some (.int r) ∧ w = lW E ad Q S2) :=
  CP.of (lv := [(0, .ref (ad 0)), (1, .int a1), (2, .int a2)]) (by decide +kernel) (Nat.le_of_ble_eq_true rfl) rfl (fun X hl hE hro hX hq hn => by subst hl; subst hE; exact t_X4_afterRide_0 (fun z hz => by rw [hro]; exact hz) hX hq ⟨rfl, rfl⟩ a1 a2 S hf)
theorem kw_RX4_X4_afterRide : KwV RX4 159 RX4 yX4_afterRide cX4_afterRide 7 (some .int) 2 := ⟨mem_wsV wd_3_189 wd_3_169 wd_3_170 wd_1_2 wd_3_171, rfl, ⟨by decide +kernel, by decide +kernel, by decide +kernel⟩, by decide⟩
theorem k_X4_afterRide {X : Cx} {cc : ByteArray} {nL ce sl pc : Nat} {lv : List (Nat × Value)} {st : List Value} {dX mcX msX : Nat} {retX : Option FieldType} {PostX : Option Value → va_W → Prop} {ad Q : Nat → Nat} {RD : Nat → Nat × Int32 × Int32 × Int32} {S S2 : MS} {d : Nat} (hro : ∀ z ∈ roL Q RD, z ∈ X.ro) (hX : Ok X cc nL RX4) (hq : Rq X dX mcX msX retX PostX) {a1 : Int32} {a2 : Int32} {r : Int32} (hM : CP X.l X.E yX4_afterRide cX4_afterRide 7 (some .int) d 0 0 (roL Q RD) [.ref (ad 0), .int a1, .int a2] (lW X.E ad Q S) (fun rv w => rv = some (.int r) ∧ w = lW X.E ad Q S2)) (hd : d < dX) (hc : ce ≤ mcX) (hs : sl ≤ msX) (hcat : (st.map fun v => v.category).sum ≤ 8) (hdg : decode cc pc = .ok (.invokevirtual 159, 3)) (kk : G X nL ce sl (pc + 3) lv (.int r :: st) (lW X.E ad Q S2)) : G X nL ce sl pc lv (.int a2 :: .int a1 :: .ref (ad 0) :: st) (lW X.E ad Q S) :=
  g_eqW (app1 _) (g_callV (pre := []) (mid := lW X.E ad Q S) (post := []) [.int a1, .int a2] hX hq kw_RX4_X4_afterRide hM hro hd hc hs rfl (Recv.of 0 4 rfl rfl) rfl hcat hdg (fun rv ws2 hp => by obtain ⟨rfl, rfl⟩ := hp; exact g_eqW (app1 _).symm kk))
def f_X4_afterDay_4 (RD : Nat → Nat × Int32 × Int32 × Int32) : Nat → Int32 → Int32 → MS → Option (Int32 × MS)
  | 0 => fun _ _ _ => none
  | n + 1 => fun x2 x3 S =>
    let lp4 := f_X4_afterDay_4 RD n
    if ((S.2 6) ≤ x3 : Prop) then
      some (x2, S)
    else
      cb (f_X4_afterRide RD x3 x2 S) fun r4 S2 =>
      bI (x3 + 1) fun v5 =>
      lp4 r4 v5 S2
def f_X4_afterDay (RD : Nat → Nat × Int32 × Int32 × Int32) (a1 : Int32) (S : MS) : Option (Int32 × MS) :=
  f_X4_afterDay_4 RD 100 a1 0 S
set_option maxRecDepth 100000 in
set_option maxHeartbeats 4000000 in
theorem t_X4_afterDay_4 {X : Cx} {ad Q : Nat → Nat} {RD : Nat → Nat × Int32 × Int32 × Int32} (hro : ∀ z ∈ roL Q RD, z ∈ X.ro) {PostX : Option Value → va_W → Prop} (hX : Ok X cX4_afterDay 4 RX4) (hq : Rq X 7 0 0 (some .int) PostX) {u : (Int32 × MS)} (hp : PostX (some (.int u.1)) (lW X.E ad Q u.2)) : ∀ (n : Nat) (x2 : Int32) (x3 : Int32) (S : MS), f_X4_afterDay_4 RD n x2 x3 S = some u → G X 4 0 0 4 [(0, .ref (ad 0)), (2, .int x2), (3, .int x3)] [] (lW X.E ad Q S) := by
  intro n
  induction n with
  | zero => intro _ _ _ hf; unfold f_X4_afterDay_4 at hf; cases hf
  | succ n hlp4 =>
  intro x2 x3 S hf
  unfold f_X4_afterDay_4 at hf
  refine g_iloadn hX 2 rfl rfl dX4_afterDay_4 ?_
  refine g_aloadn hX 0 rfl rfl dX4_afterDay_5 ?_
  refine lg_riderCount hX (v := S.2 6) rfl dX4_afterDay_6 ?_
  refine g_icmp_ge hX 25 (by decide) dX4_afterDay_9 (fun c1 => ?_) (fun c1 => ?_)
  · have hf := ite_t c1 hf
    refine g_iloadn hX 1 rfl rfl dX4_afterDay_25 ?_
    obtain rfl := oi hf
    exact g_iret hX hq (by decide) (by decide) hp dX4_afterDay_26
  · have hf := ite_f c1 hf
    refine g_aloadn hX 0 rfl rfl dX4_afterDay_12 ?_
    refine g_iloadn hX 2 rfl rfl dX4_afterDay_13 ?_
    refine g_iloadn hX 1 rfl rfl dX4_afterDay_14 ?_
    obtain ⟨r4, S2, h3, hf⟩ := cb_open hf
    refine k_X4_afterRide hro hX hq (c_X4_afterRide h3) (by decide) (by decide) (by decide) (Nat.le_of_ble_eq_true rfl) dX4_afterDay_15 ?_
    refine g_istoren hX [(2, .int r4), (0, .ref (ad 0)), (3, .int x3)] rfl (by decide) rfl dX4_afterDay_18 ?_
    obtain ⟨v5, ev5, hf⟩ := bI_open hf
    refine g_iinc hX 2 (v := v5) [(3, .int v5), (2, .int r4), (0, .ref (ad 0))] rfl (by rw [ev5]; rfl) (by decide) rfl dX4_afterDay_19 ?_
    refine g_goto hX 4 (by decide) dX4_afterDay_22 ?_
    refine g_lv [2, 1, 0] rfl ?_
    exact hlp4 _ _ _ hf
set_option maxRecDepth 100000 in
set_option maxHeartbeats 4000000 in
theorem t_X4_afterDay_0 {X : Cx} {ad Q : Nat → Nat} {RD : Nat → Nat × Int32 × Int32 × Int32} (hro : ∀ z ∈ roL Q RD, z ∈ X.ro) {PostX : Option Value → va_W → Prop} (hX : Ok X cX4_afterDay 4 RX4) (hq : Rq X 7 0 0 (some .int) PostX) {u : (Int32 × MS)} (hp : PostX (some (.int u.1)) (lW X.E ad Q u.2)) (a1 : Int32) (S : MS) (hf : f_X4_afterDay RD a1 S = some u) : G X 4 0 0 0 [(0, .ref (ad 0)), (1, .int a1)] [] (lW X.E ad Q S) := by
  unfold f_X4_afterDay at hf
  refine g_iloadn hX 1 rfl rfl dX4_afterDay_0 ?_
  refine g_istoren hX [(2, .int a1), (0, .ref (ad 0)), (1, .int a1)] rfl (by decide) rfl dX4_afterDay_1 ?_
  refine g_iconst hX (v := 0) (by decide) dX4_afterDay_2 ?_
  refine g_istoren hX [(3, .int 0), (2, .int a1), (0, .ref (ad 0)), (1, .int a1)] rfl (by decide) rfl dX4_afterDay_3 ?_
  refine g_lv [2, 1, 0] rfl ?_
  exact t_X4_afterDay_4 hro hX hq hp _ _ _ _ hf
theorem c_X4_afterDay {l : Launch} {E : En} {ad Q : Nat → Nat} {RD : Nat → Nat × Int32 × Int32 × Int32} {a1 : Int32} {r : Int32} {S S2 : MS} (hf : f_X4_afterDay RD a1 S = some (r, S2)) : CP l E yX4_afterDay cX4_afterDay 4 (some .int) 7 0 0 (roL Q RD) [.ref (ad 0), .int a1] (lW E ad Q S) (fun rv w => rv = some (.int r) ∧ w = lW E ad Q S2) :=
  CP.of (lv := [(0, .ref (ad 0)), (1, .int a1)]) (by decide +kernel) (Nat.le_of_ble_eq_true rfl) rfl (fun X hl hE hro hX hq hn => by subst hl; subst hE; exact t_X4_afterDay_0 (fun z hz => by rw [hro]; exact hz) hX hq ⟨rfl, rfl⟩ a1 S hf)
def f_X4_countRides (RD : Nat → Nat × Int32 × Int32 × Int32) (a1 : Int32) (S : MS) : Option (Int32 × MS) :=
  bI (jmin 9999 ((S.2 4) + a1)) fun v1 =>
  some (0, (sF S 4 v1))
set_option maxRecDepth 100000 in
set_option maxHeartbeats 4000000 in
theorem t_X4_countRides_0 {X : Cx} {ad Q : Nat → Nat} {RD : Nat → Nat × Int32 × Int32 × Int32} (hro : ∀ z ∈ roL Q RD, z ∈ X.ro) {PostX : Option Value → va_W → Prop} (hX : Ok X cX4_countRides 2 RX4) (hq : Rq X 1 0 0 none PostX) {u : (Int32 × MS)} (hp : PostX none (lW X.E ad Q u.2)) (a1 : Int32) (S : MS) (hf : f_X4_countRides RD a1 S = some u) : G X 2 0 0 0 [(0, .ref (ad 0)), (1, .int a1)] [] (lW X.E ad Q S) := by
  unfold f_X4_countRides at hf
  refine g_aloadn hX 0 rfl rfl dX4_countRides_0 ?_
  refine g_sipush hX (v := 9999) (by decide) dX4_countRides_1 ?_
  refine g_aloadn hX 0 rfl rfl dX4_countRides_4 ?_
  refine lg_rides hX (v := S.2 4) rfl dX4_countRides_5 ?_
  refine g_iloadn hX 1 rfl rfl dX4_countRides_8 ?_
  refine g_iadd hX dX4_countRides_9 ?_
  refine g_jmin hX hq km_RX4_min (by decide) (by decide) (by decide) (Nat.le_of_ble_eq_true rfl) dX4_countRides_10 ?_
  obtain ⟨v1, ev1, hf⟩ := bI_open hf
  refine g_nm ev1 ?_
  refine lp_rides hX dX4_countRides_13 ?_
  obtain rfl := oi hf
  exact g_vret hX hq (by decide) (by decide) hp dX4_countRides_16
theorem c_X4_countRides {l : Launch} {E : En} {ad Q : Nat → Nat} {RD : Nat → Nat × Int32 × Int32 × Int32} {a1 : Int32} {r : Int32} {S S2 : MS} (hf : f_X4_countRides RD a1 S = some (r, S2)) : CP l E yX4_countRides cX4_countRides 2 none 1 0 0 (roL Q RD) [.ref (ad 0), .int a1] (lW E ad Q S) (fun rv w => rv = none ∧ w = lW E ad Q S2) :=
  CP.of (lv := [(0, .ref (ad 0)), (1, .int a1)]) (by decide +kernel) (Nat.le_of_ble_eq_true rfl) rfl (fun X hl hE hro hX hq hn => by subst hl; subst hE; exact t_X4_countRides_0 (fun z hz => by rw [hro]; exact hz) hX hq ⟨rfl, rfl⟩ a1 S hf)
theorem kw_RX4_X4_countRides : KwV RX4 162 RX4 yX4_countRides cX4_countRides 2 none 1 := ⟨mem_wsV wd_3_194 wd_3_177 wd_3_178 wd_1_2 wd_3_179, rfl, ⟨by decide +kernel, by decide +kernel, by decide +kernel⟩, by decide⟩
theorem k_X4_countRides {X : Cx} {cc : ByteArray} {nL ce sl pc : Nat} {lv : List (Nat × Value)} {st : List Value} {dX mcX msX : Nat} {retX : Option FieldType} {PostX : Option Value → va_W → Prop} {ad Q : Nat → Nat} {RD : Nat → Nat × Int32 × Int32 × Int32} {S S2 : MS} {d : Nat} (hro : ∀ z ∈ roL Q RD, z ∈ X.ro) (hX : Ok X cc nL RX4) (hq : Rq X dX mcX msX retX PostX) {a1 : Int32} (hM : CP X.l X.E yX4_countRides cX4_countRides 2 none d 0 0 (roL Q RD) [.ref (ad 0), .int a1] (lW X.E ad Q S) (fun rv w => rv = none ∧ w = lW X.E ad Q S2)) (hd : d < dX) (hc : ce ≤ mcX) (hs : sl ≤ msX) (hcat : (st.map fun v => v.category).sum ≤ 8) (hdg : decode cc pc = .ok (.invokevirtual 162, 3)) (kk : G X nL ce sl (pc + 3) lv st (lW X.E ad Q S2)) : G X nL ce sl pc lv (.int a1 :: .ref (ad 0) :: st) (lW X.E ad Q S) :=
  g_eqW (app1 _) (g_callV (pre := []) (mid := lW X.E ad Q S) (post := []) [.int a1] hX hq kw_RX4_X4_countRides hM hro hd hc hs rfl (Recv.of 0 4 rfl rfl) rfl hcat hdg (fun rv ws2 hp => by obtain ⟨rfl, rfl⟩ := hp; exact g_eqW (app1 _).symm kk))
def f_X4_countDays (RD : Nat → Nat × Int32 × Int32 × Int32) (a1 : Int32) (S : MS) : Option (Int32 × MS) :=
  bI ((S.2 3) + a1) fun v1 =>
  cb (f_X4_countRides RD (a1 * (S.2 6)) (sF S 3 v1)) fun _ S2 =>
  some (0, S2)
set_option maxRecDepth 100000 in
set_option maxHeartbeats 4000000 in
theorem t_X4_countDays_0 {X : Cx} {ad Q : Nat → Nat} {RD : Nat → Nat × Int32 × Int32 × Int32} (hro : ∀ z ∈ roL Q RD, z ∈ X.ro) {PostX : Option Value → va_W → Prop} (hX : Ok X cX4_countDays 2 RX4) (hq : Rq X 2 0 0 none PostX) {u : (Int32 × MS)} (hp : PostX none (lW X.E ad Q u.2)) (a1 : Int32) (S : MS) (hf : f_X4_countDays RD a1 S = some u) : G X 2 0 0 0 [(0, .ref (ad 0)), (1, .int a1)] [] (lW X.E ad Q S) := by
  unfold f_X4_countDays at hf
  refine g_aloadn hX 0 rfl rfl dX4_countDays_0 ?_
  refine g_dup hX rfl dX4_countDays_1 ?_
  refine lg_day hX (v := S.2 3) rfl dX4_countDays_2 ?_
  refine g_iloadn hX 1 rfl rfl dX4_countDays_5 ?_
  refine g_iadd hX dX4_countDays_6 ?_
  obtain ⟨v1, ev1, hf⟩ := bI_open hf
  refine g_nm ev1 ?_
  refine lp_day hX dX4_countDays_7 ?_
  refine g_aloadn hX 0 rfl rfl dX4_countDays_10 ?_
  refine g_iloadn hX 1 rfl rfl dX4_countDays_11 ?_
  refine g_aloadn hX 0 rfl rfl dX4_countDays_12 ?_
  refine lg_riderCount hX (v := S.2 6) rfl dX4_countDays_13 ?_
  refine g_imul hX dX4_countDays_16 ?_
  obtain ⟨z4, S2, h3, hf⟩ := cb_open hf
  refine k_X4_countRides hro hX hq (c_X4_countRides h3) (by decide) (by decide) (by decide) (Nat.le_of_ble_eq_true rfl) dX4_countDays_17 ?_
  obtain rfl := oi hf
  exact g_vret hX hq (by decide) (by decide) hp dX4_countDays_20
theorem c_X4_countDays {l : Launch} {E : En} {ad Q : Nat → Nat} {RD : Nat → Nat × Int32 × Int32 × Int32} {a1 : Int32} {r : Int32} {S S2 : MS} (hf : f_X4_countDays RD a1 S = some (r, S2)) : CP l E yX4_countDays cX4_countDays 2 none 2 0 0 (roL Q RD) [.ref (ad 0), .int a1] (lW E ad Q S) (fun rv w => rv = none ∧ w = lW E ad Q S2) :=
  CP.of (lv := [(0, .ref (ad 0)), (1, .int a1)]) (by decide +kernel) (Nat.le_of_ble_eq_true rfl) rfl (fun X hl hE hro hX hq hn => by subst hl; subst hE; exact t_X4_countDays_0 (fun z hz => by rw [hro]; exact hz) hX hq ⟨rfl, rfl⟩ a1 S hf)
def f_X4_draw (RD : Nat → Nat × Int32 × Int32 × Int32) (S : MS) : Option (Int32 × MS) :=
  bI (((S.2 5) * 1103515245) + 12345) fun v1 =>
  some ((jushr v1 8), (sF S 5 v1))
set_option maxRecDepth 100000 in
set_option maxHeartbeats 4000000 in
theorem t_X4_draw_0 {X : Cx} {ad Q : Nat → Nat} {RD : Nat → Nat × Int32 × Int32 × Int32} (hro : ∀ z ∈ roL Q RD, z ∈ X.ro) {PostX : Option Value → va_W → Prop} (hX : Ok X cX4_draw 1 RX4) (hq : Rq X 0 0 0 (some .int) PostX) {u : (Int32 × MS)} (hp : PostX (some (.int u.1)) (lW X.E ad Q u.2)) (S : MS) (hf : f_X4_draw RD S = some u) : G X 1 0 0 0 [(0, .ref (ad 0))] [] (lW X.E ad Q S) := by
  unfold f_X4_draw at hf
  refine g_aloadn hX 0 rfl rfl dX4_draw_0 ?_
  refine g_aloadn hX 0 rfl rfl dX4_draw_1 ?_
  refine lg_z hX (v := S.2 5) rfl dX4_draw_2 ?_
  refine g_ldc hX (v := 1103515245) wd_3_203 dX4_draw_5 ?_
  refine g_imul hX dX4_draw_7 ?_
  refine g_sipush hX (v := 12345) (by decide) dX4_draw_8 ?_
  refine g_iadd hX dX4_draw_11 ?_
  obtain ⟨v1, ev1, hf⟩ := bI_open hf
  refine g_nm ev1 ?_
  refine lp_z hX dX4_draw_12 ?_
  refine g_aloadn hX 0 rfl rfl dX4_draw_15 ?_
  refine lg_z hX (v := v1) rfl dX4_draw_16 ?_
  refine g_bipush hX (v := 8) (by decide) dX4_draw_19 ?_
  refine g_jushr hX dX4_draw_21 ?_
  obtain rfl := oi hf
  exact g_iret hX hq (by decide) (by decide) hp dX4_draw_22
theorem c_X4_draw {l : Launch} {E : En} {ad Q : Nat → Nat} {RD : Nat → Nat × Int32 × Int32 × Int32} {r : Int32} {S S2 : MS} (hf : f_X4_draw RD S = some (r, S2)) : CP l E yX4_draw cX4_draw 1 (some .int) 0 0 0 (roL Q RD) [.ref (ad 0)] (lW E ad Q S) (fun rv w => rv = some (.int r) ∧ w = lW E ad Q S2) :=
  CP.of (lv := [(0, .ref (ad 0))]) (by decide +kernel) (Nat.le_of_ble_eq_true rfl) rfl (fun X hl hE hro hX hq hn => by subst hl; subst hE; exact t_X4_draw_0 (fun z hz => by rw [hro]; exact hz) hX hq ⟨rfl, rfl⟩ S hf)
def f_X4_workOutWorth_20 (RD : Nat → Nat × Int32 × Int32 × Int32) (lp2 : Int32 → MS → Option (Int32 × MS)) (lp10 : Int32 → Int32 → MS → Option (Int32 × MS)) : Nat → Int32 → Int32 → Int32 → MS → Option (Int32 × MS)
  | 0 => fun _ _ _ _ => none
  | n + 1 => fun x1 x2 x3 S =>
    let lp20 := f_X4_workOutWorth_20 RD lp2 lp10 n
    if (((8 - x1) - x2) < x3 : Prop) then
      bI (x2 + 1) fun v5 =>
      lp10 x1 v5 S
    else
      cs (f_X11_placeOf x1 x2 x3) fun r6 =>
      cb (f_X2_gives 0 (lvF 0 S) x1 x2 x3 (lvS 0 S)) fun r8 S10 =>
      gix r6 729 fun k11 =>
      bI (x3 + 1) fun v12 =>
      lp20 x1 x2 v12 (sA (lvJ 0 S S10) 4 k11 r8)
def f_X4_workOutWorth_10 (RD : Nat → Nat × Int32 × Int32 × Int32) (lp2 : Int32 → MS → Option (Int32 × MS)) : Nat → Int32 → Int32 → MS → Option (Int32 × MS)
  | 0 => fun _ _ _ => none
  | n + 1 => fun x1 x2 S =>
    let lp10 := f_X4_workOutWorth_10 RD lp2 n
    if ((8 - x1) < x2 : Prop) then
      bI (x1 + 1) fun v3 =>
      lp2 v3 S
    else
      f_X4_workOutWorth_20 RD lp2 lp10 100 x1 x2 0 S
def f_X4_workOutWorth_2 (RD : Nat → Nat × Int32 × Int32 × Int32) : Nat → Int32 → MS → Option (Int32 × MS)
  | 0 => fun _ _ => none
  | n + 1 => fun x1 S =>
    let lp2 := f_X4_workOutWorth_2 RD n
    if (8 < x1 : Prop) then
      some (0, S)
    else
      f_X4_workOutWorth_10 RD lp2 100 x1 0 S
def f_X4_workOutWorth (RD : Nat → Nat × Int32 × Int32 × Int32) (S : MS) : Option (Int32 × MS) :=
  f_X4_workOutWorth_2 RD 100 0 S
set_option maxRecDepth 100000 in
set_option maxHeartbeats 4000000 in
theorem t_X4_workOutWorth_20 {X : Cx} {ad Q : Nat → Nat} {RD : Nat → Nat × Int32 × Int32 × Int32} (hro : ∀ z ∈ roL Q RD, z ∈ X.ro) {PostX : Option Value → va_W → Prop} (hX : Ok X cX4_workOutWorth 4 RX4) (hq : Rq X 68 0 0 none PostX) {u : (Int32 × MS)} (hp : PostX none (lW X.E ad Q u.2)) {lp2 : Int32 → MS → Option (Int32 × MS)} (hlp2 : ∀ (x1 : Int32) (S : MS), lp2 x1 S = some u → G X 4 0 0 2 [(0, .ref (ad 0)), (1, .int x1)] [] (lW X.E ad Q S)) {lp10 : Int32 → Int32 → MS → Option (Int32 × MS)} (hlp10 : ∀ (x1 : Int32) (x2 : Int32) (S : MS), lp10 x1 x2 S = some u → G X 4 0 0 10 [(0, .ref (ad 0)), (1, .int x1), (2, .int x2)] [] (lW X.E ad Q S)) : ∀ (n : Nat) (x1 : Int32) (x2 : Int32) (x3 : Int32) (S : MS), f_X4_workOutWorth_20 RD lp2 lp10 n x1 x2 x3 S = some u → G X 4 0 0 20 [(0, .ref (ad 0)), (1, .int x1), (2, .int x2), (3, .int x3)] [] (lW X.E ad Q S) := by
  intro n
  induction n with
  | zero => intro _ _ _ _ hf; unfold f_X4_workOutWorth_20 at hf; cases hf
  | succ n hlp20 =>
  intro x1 x2 x3 S hf
  unfold f_X4_workOutWorth_20 at hf
  refine g_iloadn hX 3 rfl rfl dX4_workOutWorth_20 ?_
  refine g_bipush hX (v := 8) (by decide) dX4_workOutWorth_21 ?_
  refine g_iloadn hX 1 rfl rfl dX4_workOutWorth_23 ?_
  refine g_isub hX dX4_workOutWorth_24 ?_
  refine g_iloadn hX 2 rfl rfl dX4_workOutWorth_25 ?_
  refine g_isub hX dX4_workOutWorth_26 ?_
  refine g_icmp_gt hX 57 (by decide) dX4_workOutWorth_27 (fun c4 => ?_) (fun c4 => ?_)
  · have hf := ite_t c4 hf
    obtain ⟨v5, ev5, hf⟩ := bI_open hf
    refine g_iinc hX 2 (v := v5) [(2, .int v5), (0, .ref (ad 0)), (1, .int x1), (3, .int x3)] rfl (by rw [ev5]; rfl) (by decide) rfl dX4_workOutWorth_57 ?_
    refine g_goto hX 10 (by decide) dX4_workOutWorth_60 ?_
    refine g_lv [1, 2, 0] rfl ?_
    exact hlp10 _ _ _ hf
  · have hf := ite_f c4 hf
    refine g_aloadn hX 0 rfl rfl dX4_workOutWorth_30 ?_
    refine lg_worth hX dX4_workOutWorth_31 ?_
    refine g_iloadn hX 1 rfl rfl dX4_workOutWorth_34 ?_
    refine g_iloadn hX 2 rfl rfl dX4_workOutWorth_35 ?_
    refine g_iloadn hX 3 rfl rfl dX4_workOutWorth_36 ?_
    obtain ⟨r6, h7, hf⟩ := cs_open hf
    refine k_RX4_X11_placeOf hX hq h7 (by decide) (by decide) (by decide) (Nat.le_of_ble_eq_true rfl) dX4_workOutWorth_37 ?_
    refine g_aloadn hX 0 rfl rfl dX4_workOutWorth_40 ?_
    refine lg_creditLaw hX dX4_workOutWorth_41 ?_
    refine g_iloadn hX 1 rfl rfl dX4_workOutWorth_44 ?_
    refine g_iloadn hX 2 rfl rfl dX4_workOutWorth_45 ?_
    refine g_iloadn hX 3 rfl rfl dX4_workOutWorth_46 ?_
    obtain ⟨r8, S10, h9, hf⟩ := cb_open hf
    refine kl_gives0 hX hq h9 (by decide) (by decide) (by decide) (Nat.le_of_ble_eq_true rfl) dX4_workOutWorth_47 ?_
    obtain ⟨k11, jk11, ik11, hf⟩ := gix_open hf
    refine ls_worth hX ik11 k11 jk11 dX4_workOutWorth_50 ?_
    obtain ⟨v12, ev12, hf⟩ := bI_open hf
    refine g_iinc hX 3 (v := v12) [(3, .int v12), (0, .ref (ad 0)), (1, .int x1), (2, .int x2)] rfl (by rw [ev12]; rfl) (by decide) rfl dX4_workOutWorth_51 ?_
    refine g_goto hX 20 (by decide) dX4_workOutWorth_54 ?_
    refine g_lv [1, 2, 3, 0] rfl ?_
    exact hlp20 _ _ _ _ hf
set_option maxRecDepth 100000 in
set_option maxHeartbeats 4000000 in
theorem t_X4_workOutWorth_10 {X : Cx} {ad Q : Nat → Nat} {RD : Nat → Nat × Int32 × Int32 × Int32} (hro : ∀ z ∈ roL Q RD, z ∈ X.ro) {PostX : Option Value → va_W → Prop} (hX : Ok X cX4_workOutWorth 4 RX4) (hq : Rq X 68 0 0 none PostX) {u : (Int32 × MS)} (hp : PostX none (lW X.E ad Q u.2)) {lp2 : Int32 → MS → Option (Int32 × MS)} (hlp2 : ∀ (x1 : Int32) (S : MS), lp2 x1 S = some u → G X 4 0 0 2 [(0, .ref (ad 0)), (1, .int x1)] [] (lW X.E ad Q S)) : ∀ (n : Nat) (x1 : Int32) (x2 : Int32) (S : MS), f_X4_workOutWorth_10 RD lp2 n x1 x2 S = some u → G X 4 0 0 10 [(0, .ref (ad 0)), (1, .int x1), (2, .int x2)] [] (lW X.E ad Q S) := by
  intro n
  induction n with
  | zero => intro _ _ _ hf; unfold f_X4_workOutWorth_10 at hf; cases hf
  | succ n hlp10 =>
  intro x1 x2 S hf
  unfold f_X4_workOutWorth_10 at hf
  refine g_iloadn hX 2 rfl rfl dX4_workOutWorth_10 ?_
  refine g_bipush hX (v := 8) (by decide) dX4_workOutWorth_11 ?_
  refine g_iloadn hX 1 rfl rfl dX4_workOutWorth_13 ?_
  refine g_isub hX dX4_workOutWorth_14 ?_
  refine g_icmp_gt hX 63 (by decide) dX4_workOutWorth_15 (fun c2 => ?_) (fun c2 => ?_)
  · have hf := ite_t c2 hf
    obtain ⟨v3, ev3, hf⟩ := bI_open hf
    refine g_iinc hX 1 (v := v3) [(1, .int v3), (0, .ref (ad 0)), (2, .int x2)] rfl (by rw [ev3]; rfl) (by decide) rfl dX4_workOutWorth_63 ?_
    refine g_goto hX 2 (by decide) dX4_workOutWorth_66 ?_
    refine g_lv [1, 0] rfl ?_
    exact hlp2 _ _ hf
  · have hf := ite_f c2 hf
    refine g_iconst hX (v := 0) (by decide) dX4_workOutWorth_18 ?_
    refine g_istoren hX [(3, .int 0), (0, .ref (ad 0)), (1, .int x1), (2, .int x2)] rfl (by decide) rfl dX4_workOutWorth_19 ?_
    refine g_lv [1, 2, 3, 0] rfl ?_
    exact t_X4_workOutWorth_20 hro hX hq hp hlp2 hlp10 _ _ _ _ _ hf
set_option maxRecDepth 100000 in
set_option maxHeartbeats 4000000 in
theorem t_X4_workOutWorth_2 {X : Cx} {ad Q : Nat → Nat} {RD : Nat → Nat × Int32 × Int32 × Int32} (hro : ∀ z ∈ roL Q RD, z ∈ X.ro) {PostX : Option Value → va_W → Prop} (hX : Ok X cX4_workOutWorth 4 RX4) (hq : Rq X 68 0 0 none PostX) {u : (Int32 × MS)} (hp : PostX none (lW X.E ad Q u.2)) : ∀ (n : Nat) (x1 : Int32) (S : MS), f_X4_workOutWorth_2 RD n x1 S = some u → G X 4 0 0 2 [(0, .ref (ad 0)), (1, .int x1)] [] (lW X.E ad Q S) := by
  intro n
  induction n with
  | zero => intro _ _ hf; unfold f_X4_workOutWorth_2 at hf; cases hf
  | succ n hlp2 =>
  intro x1 S hf
  unfold f_X4_workOutWorth_2 at hf
  refine g_iloadn hX 1 rfl rfl dX4_workOutWorth_2 ?_
  refine g_bipush hX (v := 8) (by decide) dX4_workOutWorth_3 ?_
  refine g_icmp_gt hX 69 (by decide) dX4_workOutWorth_5 (fun c1 => ?_) (fun c1 => ?_)
  · have hf := ite_t c1 hf
    obtain rfl := oi hf
    exact g_vret hX hq (by decide) (by decide) hp dX4_workOutWorth_69
  · have hf := ite_f c1 hf
    refine g_iconst hX (v := 0) (by decide) dX4_workOutWorth_8 ?_
    refine g_istoren hX [(2, .int 0), (0, .ref (ad 0)), (1, .int x1)] rfl (by decide) rfl dX4_workOutWorth_9 ?_
    refine g_lv [1, 2, 0] rfl ?_
    exact t_X4_workOutWorth_10 hro hX hq hp hlp2 _ _ _ _ hf
set_option maxRecDepth 100000 in
set_option maxHeartbeats 4000000 in
theorem t_X4_workOutWorth_0 {X : Cx} {ad Q : Nat → Nat} {RD : Nat → Nat × Int32 × Int32 × Int32} (hro : ∀ z ∈ roL Q RD, z ∈ X.ro) {PostX : Option Value → va_W → Prop} (hX : Ok X cX4_workOutWorth 4 RX4) (hq : Rq X 68 0 0 none PostX) {u : (Int32 × MS)} (hp : PostX none (lW X.E ad Q u.2)) (S : MS) (hf : f_X4_workOutWorth RD S = some u) : G X 4 0 0 0 [(0, .ref (ad 0))] [] (lW X.E ad Q S) := by
  unfold f_X4_workOutWorth at hf
  refine g_iconst hX (v := 0) (by decide) dX4_workOutWorth_0 ?_
  refine g_istoren hX [(1, .int 0), (0, .ref (ad 0))] rfl (by decide) rfl dX4_workOutWorth_1 ?_
  refine g_lv [1, 0] rfl ?_
  exact t_X4_workOutWorth_2 hro hX hq hp _ _ _ hf
theorem c_X4_workOutWorth {l : Launch} {E : En} {ad Q : Nat → Nat} {RD : Nat → Nat × Int32 × Int32 × Int32} {r : Int32} {S S2 : MS} (hf : f_X4_workOutWorth RD S = some (r, S2)) : CP l E yX4_workOutWorth cX4_workOutWorth 4 none 68 0 0 (roL Q RD) [.ref (ad 0)] (lW E ad Q S) (fun rv w => rv = none ∧ w = lW E ad Q S2) :=
  CP.of (lv := [(0, .ref (ad 0))]) (by decide +kernel) (Nat.le_of_ble_eq_true rfl) rfl (fun X hl hE hro hX hq hn => by subst hl; subst hE; exact t_X4_workOutWorth_0 (fun z hz => by rw [hro]; exact hz) hX hq ⟨rfl, rfl⟩ S hf)
theorem kw_RX4_X4_workOutWorth : KwV RX4 83 RX4 yX4_workOutWorth cX4_workOutWorth 4 none 0 := ⟨mem_wsV wd_1_218 wd_1_220 wd_s_0 wd_1_2 wd_1_221, rfl, ⟨by decide +kernel, by decide +kernel, by decide +kernel⟩, by decide⟩
theorem k_X4_workOutWorth {X : Cx} {cc : ByteArray} {nL ce sl pc : Nat} {lv : List (Nat × Value)} {st : List Value} {dX mcX msX : Nat} {retX : Option FieldType} {PostX : Option Value → va_W → Prop} {ad Q : Nat → Nat} {RD : Nat → Nat × Int32 × Int32 × Int32} {S S2 : MS} {d : Nat} (hro : ∀ z ∈ roL Q RD, z ∈ X.ro) (hX : Ok X cc nL RX4) (hq : Rq X dX mcX msX retX PostX) (hM : CP X.l X.E yX4_workOutWorth cX4_workOutWorth 4 none d 0 0 (roL Q RD) [.ref (ad 0)] (lW X.E ad Q S) (fun rv w => rv = none ∧ w = lW X.E ad Q S2)) (hd : d < dX) (hc : ce ≤ mcX) (hs : sl ≤ msX) (hcat : (st.map fun v => v.category).sum ≤ 8) (hdg : decode cc pc = .ok (.invokevirtual 83, 3)) (kk : G X nL ce sl (pc + 3) lv st (lW X.E ad Q S2)) : G X nL ce sl pc lv (.ref (ad 0) :: st) (lW X.E ad Q S) :=
  g_eqW (app1 _) (g_callV (pre := []) (mid := lW X.E ad Q S) (post := []) [] hX hq kw_RX4_X4_workOutWorth hM hro hd hc hs rfl (Recv.of 0 4 rfl rfl) rfl hcat hdg (fun rv ws2 hp => by obtain ⟨rfl, rfl⟩ := hp; exact g_eqW (app1 _).symm kk))
def f_X4_takeTape (RD : Nat → Nat × Int32 × Int32 × Int32) (a1 : Int32) (S : MS) : Option (Int32 × MS) :=
  if (a1 = 0 : Prop) then
    cb (f_X2_take 0 (tpF S) (S.2 7) (tkV 0 S)) fun r2 S4 =>
    if (0 ≤ r2 : Prop) then
      some (r2, (sF (tvJ 0 S S4) 7 0))
    else
      if (a1 = 0 : Prop) then
        cb (f_X4_workOutWorth RD (sF (tvJ 0 S S4) 7 0)) fun _ S7 =>
        some (r2, S7)
      else
        some (r2, (sF (tvJ 0 S S4) 7 0))
  else
    cb (f_X2_take 2 (tpF S) (S.2 7) (tkV 1 S)) fun r10 S12 =>
    if (0 ≤ r10 : Prop) then
      some (r10, (sF (tvJ 1 S S12) 7 0))
    else
      if (a1 = 0 : Prop) then
        cb (f_X4_workOutWorth RD (sF (tvJ 1 S S12) 7 0)) fun _ S15 =>
        some (r10, S15)
      else
        some (r10, (sF (tvJ 1 S S12) 7 0))
set_option maxRecDepth 100000 in
set_option maxHeartbeats 4000000 in
theorem t_X4_takeTape_0 {X : Cx} {ad Q : Nat → Nat} {RD : Nat → Nat × Int32 × Int32 × Int32} (hro : ∀ z ∈ roL Q RD, z ∈ X.ro) {PostX : Option Value → va_W → Prop} (hX : Ok X cX4_takeTape 3 RX4) (hq : Rq X 69 0 0 (some .int) PostX) {u : (Int32 × MS)} (hp : PostX (some (.int u.1)) (lW X.E ad Q u.2)) (a1 : Int32) (S : MS) (hf : f_X4_takeTape RD a1 S = some u) : G X 3 0 0 0 [(0, .ref (ad 0)), (1, .int a1)] [] (lW X.E ad Q S) := by
  unfold f_X4_takeTape at hf
  refine g_aloadn hX 0 rfl rfl dX4_takeTape_0 ?_
  refine g_iloadn hX 1 rfl rfl dX4_takeTape_1 ?_
  by_cases c1 : a1 = 0
  · have hf := ite_t c1 hf
    refine kl_lawOf0 hro hX hq c1 (by decide) (by decide) (by decide) (Nat.le_of_ble_eq_true rfl) dX4_takeTape_2 ?_
    refine g_aloadn hX 0 rfl rfl dX4_takeTape_5 ?_
    refine lg_tape hX dX4_takeTape_6 ?_
    refine g_aloadn hX 0 rfl rfl dX4_takeTape_9 ?_
    refine lg_tapeLength hX (v := S.2 7) rfl dX4_takeTape_10 ?_
    obtain ⟨r2, S4, h3, hf⟩ := cb_open hf
    refine kl_take0 hX hq h3 (by decide) (by decide) (by decide) (Nat.le_of_ble_eq_true rfl) dX4_takeTape_13 ?_
    refine g_istoren hX [(2, .int r2), (0, .ref (ad 0)), (1, .int a1)] rfl (by decide) rfl dX4_takeTape_16 ?_
    refine g_aloadn hX 1 rfl rfl dX4_takeTape_17 ?_
    refine g_iconst hX (v := 0) (by decide) dX4_takeTape_18 ?_
    refine lp_tapeLength hX dX4_takeTape_19 ?_
    refine g_iloadn hX 0 rfl rfl dX4_takeTape_22 ?_
    refine g_if_ge hX 34 (by decide) dX4_takeTape_23 (fun c5 => ?_) (fun c5 => ?_)
    · have hf := ite_t c5 hf
      refine g_iloadn hX 0 rfl rfl dX4_takeTape_34 ?_
      obtain rfl := oi hf
      exact g_iret hX hq (by decide) (by decide) hp dX4_takeTape_35
    · have hf := ite_f c5 hf
      refine g_iloadn hX 2 rfl rfl dX4_takeTape_26 ?_
      refine g_if_ne hX 34 (by decide) dX4_takeTape_27 (fun c6 => ?_) (fun c6 => ?_)
      · have hf := ite_f c6 hf
        refine g_iloadn hX 0 rfl rfl dX4_takeTape_34 ?_
        obtain rfl := oi hf
        exact g_iret hX hq (by decide) (by decide) hp dX4_takeTape_35
      · have hf := ite_t c6 hf
        refine g_aloadn hX 1 rfl rfl dX4_takeTape_30 ?_
        obtain ⟨z9, S7, h8, hf⟩ := cb_open hf
        refine k_X4_workOutWorth hro hX hq (c_X4_workOutWorth h8) (by decide) (by decide) (by decide) (Nat.le_of_ble_eq_true rfl) dX4_takeTape_31 ?_
        refine g_iloadn hX 0 rfl rfl dX4_takeTape_34 ?_
        obtain rfl := oi hf
        exact g_iret hX hq (by decide) (by decide) hp dX4_takeTape_35
  · have hf := ite_f c1 hf
    refine kl_lawOf1 hro hX hq c1 (by decide) (by decide) (by decide) (Nat.le_of_ble_eq_true rfl) dX4_takeTape_2 ?_
    refine g_aloadn hX 0 rfl rfl dX4_takeTape_5 ?_
    refine lg_tape hX dX4_takeTape_6 ?_
    refine g_aloadn hX 0 rfl rfl dX4_takeTape_9 ?_
    refine lg_tapeLength hX (v := S.2 7) rfl dX4_takeTape_10 ?_
    obtain ⟨r10, S12, h11, hf⟩ := cb_open hf
    refine kl_take1 hX hq h11 (by decide) (by decide) (by decide) (Nat.le_of_ble_eq_true rfl) dX4_takeTape_13 ?_
    refine g_istoren hX [(2, .int r10), (0, .ref (ad 0)), (1, .int a1)] rfl (by decide) rfl dX4_takeTape_16 ?_
    refine g_aloadn hX 1 rfl rfl dX4_takeTape_17 ?_
    refine g_iconst hX (v := 0) (by decide) dX4_takeTape_18 ?_
    refine lp_tapeLength hX dX4_takeTape_19 ?_
    refine g_iloadn hX 0 rfl rfl dX4_takeTape_22 ?_
    refine g_if_ge hX 34 (by decide) dX4_takeTape_23 (fun c13 => ?_) (fun c13 => ?_)
    · have hf := ite_t c13 hf
      refine g_iloadn hX 0 rfl rfl dX4_takeTape_34 ?_
      obtain rfl := oi hf
      exact g_iret hX hq (by decide) (by decide) hp dX4_takeTape_35
    · have hf := ite_f c13 hf
      refine g_iloadn hX 2 rfl rfl dX4_takeTape_26 ?_
      refine g_if_ne hX 34 (by decide) dX4_takeTape_27 (fun c14 => ?_) (fun c14 => ?_)
      · have hf := ite_f c14 hf
        refine g_iloadn hX 0 rfl rfl dX4_takeTape_34 ?_
        obtain rfl := oi hf
        exact g_iret hX hq (by decide) (by decide) hp dX4_takeTape_35
      · have hf := ite_t c14 hf
        refine g_aloadn hX 1 rfl rfl dX4_takeTape_30 ?_
        obtain ⟨z17, S15, h16, hf⟩ := cb_open hf
        refine k_X4_workOutWorth hro hX hq (c_X4_workOutWorth h16) (by decide) (by decide) (by decide) (Nat.le_of_ble_eq_true rfl) dX4_takeTape_31 ?_
        refine g_iloadn hX 0 rfl rfl dX4_takeTape_34 ?_
        obtain rfl := oi hf
        exact g_iret hX hq (by decide) (by decide) hp dX4_takeTape_35
theorem c_X4_takeTape {l : Launch} {E : En} {ad Q : Nat → Nat} {RD : Nat → Nat × Int32 × Int32 × Int32} {a1 : Int32} {r : Int32} {S S2 : MS} (hf : f_X4_takeTape RD a1 S = some (r, S2)) : CP l E yX4_takeTape cX4_takeTape 3 (some .int) 69 0 0 (roL Q RD) [.ref (ad 0), .int a1] (lW E ad Q S) (fun rv w => rv = some (.int r) ∧ w = lW E ad Q S2) :=
  CP.of (lv := [(0, .ref (ad 0)), (1, .int a1)]) (by decide +kernel) (Nat.le_of_ble_eq_true rfl) rfl (fun X hl hE hro hX hq hn => by subst hl; subst hE; exact t_X4_takeTape_0 (fun z hz => by rw [hro]; exact hz) hX hq ⟨rfl, rfl⟩ a1 S hf)
def f_X4_hasFloors_47 (RD : Nat → Nat × Int32 × Int32 × Int32) (sn : Int32) (N : Nat → Int32) (S : MS) : Option (Int32 × MS) :=
  some (1, S)
def f_X4_hasFloors_2 (RD : Nat → Nat × Int32 × Int32 × Int32) (sn : Int32) (N : Nat → Int32) : Nat → Int32 → Int32 → MS → Option (Int32 × MS)
  | 0 => fun _ _ _ => none
  | n + 1 => fun x2 x3 S =>
    let lp2 := f_X4_hasFloors_2 RD sn N n
    if (sn ≤ x3 : Prop) then
      f_X4_hasFloors_47 RD sn N S
    else
      if ((S.2 6) ≤ x3 : Prop) then
        f_X4_hasFloors_47 RD sn N S
      else
        gix x3 6 fun k3 =>
        cb (f_X4_floor RD x3 (S.1 1 k3) x2 S) fun r6 S4 =>
        gix x3 40 fun k7 =>
        if (r6 = (N k7) : Prop) then
          bI (x3 + 1) fun v9 =>
          lp2 x2 v9 S4
        else
          some (0, S4)
def f_X4_hasFloors (RD : Nat → Nat × Int32 × Int32 × Int32) (sn : Int32) (N : Nat → Int32) (a2 : Int32) (S : MS) : Option (Int32 × MS) :=
  f_X4_hasFloors_2 RD sn N 100 a2 0 S
set_option maxRecDepth 100000 in
set_option maxHeartbeats 4000000 in
theorem t_X4_hasFloors_47 {X : Cx} {ad Q : Nat → Nat} {RD : Nat → Nat × Int32 × Int32 × Int32} (hro : ∀ z ∈ roL Q RD, z ∈ X.ro) {q0 q1 : Nat} {sb sn : Int32} {N : Nat → Int32} (hsh : (q0, .inr (7, [.ref q1, .int sb, .int sn])) ∈ X.ro) (hsn : (q1, .inl (X.E.cI, 40, .inl N)) ∈ X.ro) {PostX : Option Value → va_W → Prop} (hX : Ok X cX4_hasFloors 4 RX4) (hq : Rq X 6 0 0 (some .boolean) PostX) {u : (Int32 × MS)} (hp : PostX (some (.int u.1)) (lW X.E ad Q u.2)) (S : MS) (hf : f_X4_hasFloors_47 RD sn N S = some u) : G X 4 0 0 47 [(0, .ref (ad 0))] [] (lW X.E ad Q S) := by
  unfold f_X4_hasFloors_47 at hf
  refine g_iconst hX (v := 1) (by decide) dX4_hasFloors_47 ?_
  obtain rfl := oi hf
  exact g_zret hX hq (by decide) (by decide) (by rfl) hp dX4_hasFloors_48
set_option maxRecDepth 100000 in
set_option maxHeartbeats 4000000 in
theorem t_X4_hasFloors_2 {X : Cx} {ad Q : Nat → Nat} {RD : Nat → Nat × Int32 × Int32 × Int32} (hro : ∀ z ∈ roL Q RD, z ∈ X.ro) {q0 q1 : Nat} {sb sn : Int32} {N : Nat → Int32} (hsh : (q0, .inr (7, [.ref q1, .int sb, .int sn])) ∈ X.ro) (hsn : (q1, .inl (X.E.cI, 40, .inl N)) ∈ X.ro) {PostX : Option Value → va_W → Prop} (hX : Ok X cX4_hasFloors 4 RX4) (hq : Rq X 6 0 0 (some .boolean) PostX) {u : (Int32 × MS)} (hp : PostX (some (.int u.1)) (lW X.E ad Q u.2)) : ∀ (n : Nat) (x2 : Int32) (x3 : Int32) (S : MS), f_X4_hasFloors_2 RD sn N n x2 x3 S = some u → G X 4 0 0 2 [(0, .ref (ad 0)), (1, .ref q0), (2, .int x2), (3, .int x3)] [] (lW X.E ad Q S) := by
  intro n
  induction n with
  | zero => intro _ _ _ hf; unfold f_X4_hasFloors_2 at hf; cases hf
  | succ n hlp2 =>
  intro x2 x3 S hf
  unfold f_X4_hasFloors_2 at hf
  refine g_iloadn hX 3 rfl rfl dX4_hasFloors_2 ?_
  refine g_aloadn hX 1 rfl rfl dX4_hasFloors_3 ?_
  refine g_getR (C := RX7) (T := TX7) (N := 3) hX inX7 hsh rfl 2 (by decide) wd_2_184 (fun _ h => h) rfl dX4_hasFloors_4 ?_
  refine g_icmp_ge hX 47 (by decide) dX4_hasFloors_7 (fun c1 => ?_) (fun c1 => ?_)
  · have hf := ite_t c1 hf
    refine g_lv [0] rfl ?_
    exact t_X4_hasFloors_47 hro hsh hsn hX hq hp _ hf
  · have hf := ite_f c1 hf
    refine g_iloadn hX 3 rfl rfl dX4_hasFloors_10 ?_
    refine g_aloadn hX 0 rfl rfl dX4_hasFloors_11 ?_
    refine lg_riderCount hX (v := S.2 6) rfl dX4_hasFloors_12 ?_
    refine g_icmp_ge hX 47 (by decide) dX4_hasFloors_15 (fun c2 => ?_) (fun c2 => ?_)
    · have hf := ite_t c2 hf
      refine g_lv [0] rfl ?_
      exact t_X4_hasFloors_47 hro hsh hsn hX hq hp _ hf
    · have hf := ite_f c2 hf
      refine g_aloadn hX 0 rfl rfl dX4_hasFloors_18 ?_
      refine g_iloadn hX 3 rfl rfl dX4_hasFloors_19 ?_
      refine g_aloadn hX 0 rfl rfl dX4_hasFloors_20 ?_
      refine lg_stories hX dX4_hasFloors_21 ?_
      refine g_iloadn hX 3 rfl rfl dX4_hasFloors_24 ?_
      obtain ⟨k3, jk3, ik3, hf⟩ := gix_open hf
      refine ll_stories hX ik3 k3 jk3 (v := S.1 1 k3) rfl dX4_hasFloors_25 ?_
      refine g_iloadn hX 2 rfl rfl dX4_hasFloors_26 ?_
      obtain ⟨r6, S4, h5, hf⟩ := cb_open hf
      refine k_X4_floor hro hX hq (c_X4_floor h5) (by decide) (by decide) (by decide) (Nat.le_of_ble_eq_true rfl) dX4_hasFloors_27 ?_
      refine g_aloadn hX 1 rfl rfl dX4_hasFloors_30 ?_
      refine g_getR (C := RX7) (T := TX7) (N := 3) hX inX7 hsh rfl 0 (by decide) wd_2_179 (fun _ h => h) rfl dX4_hasFloors_31 ?_
      refine g_iloadn hX 3 rfl rfl dX4_hasFloors_34 ?_
      obtain ⟨k7, jk7, ik7, hf⟩ := gix_open hf
      refine g_ialdR hX hsn ik7 k7 jk7 dX4_hasFloors_35 ?_
      refine g_icmp_eq hX 41 (by decide) dX4_hasFloors_36 (fun c8 => ?_) (fun c8 => ?_)
      · have hf := ite_t c8 hf
        obtain ⟨v9, ev9, hf⟩ := bI_open hf
        refine g_iinc hX 3 (v := v9) [(3, .int v9), (0, .ref (ad 0)), (1, .ref q0), (2, .int x2)] rfl (by rw [ev9]; rfl) (by decide) rfl dX4_hasFloors_41 ?_
        refine g_goto hX 2 (by decide) dX4_hasFloors_44 ?_
        refine g_lv [1, 2, 3, 0] rfl ?_
        exact hlp2 _ _ _ hf
      · have hf := ite_f c8 hf
        refine g_iconst hX (v := 0) (by decide) dX4_hasFloors_39 ?_
        obtain rfl := oi hf
        exact g_zret hX hq (by decide) (by decide) (by rfl) hp dX4_hasFloors_40
set_option maxRecDepth 100000 in
set_option maxHeartbeats 4000000 in
theorem t_X4_hasFloors_0 {X : Cx} {ad Q : Nat → Nat} {RD : Nat → Nat × Int32 × Int32 × Int32} (hro : ∀ z ∈ roL Q RD, z ∈ X.ro) {q0 q1 : Nat} {sb sn : Int32} {N : Nat → Int32} (hsh : (q0, .inr (7, [.ref q1, .int sb, .int sn])) ∈ X.ro) (hsn : (q1, .inl (X.E.cI, 40, .inl N)) ∈ X.ro) {PostX : Option Value → va_W → Prop} (hX : Ok X cX4_hasFloors 4 RX4) (hq : Rq X 6 0 0 (some .boolean) PostX) {u : (Int32 × MS)} (hp : PostX (some (.int u.1)) (lW X.E ad Q u.2)) (a2 : Int32) (S : MS) (hf : f_X4_hasFloors RD sn N a2 S = some u) : G X 4 0 0 0 [(0, .ref (ad 0)), (1, .ref q0), (2, .int a2)] [] (lW X.E ad Q S) := by
  unfold f_X4_hasFloors at hf
  refine g_iconst hX (v := 0) (by decide) dX4_hasFloors_0 ?_
  refine g_istoren hX [(3, .int 0), (0, .ref (ad 0)), (1, .ref q0), (2, .int a2)] rfl (by decide) rfl dX4_hasFloors_1 ?_
  refine g_lv [1, 2, 3, 0] rfl ?_
  exact t_X4_hasFloors_2 hro hsh hsn hX hq hp _ _ _ _ hf
theorem c_X4_hasFloors {l : Launch} {E : En} {ad Q : Nat → Nat} {RD : Nat → Nat × Int32 × Int32 × Int32} {q0 q1 : Nat} {sb sn : Int32} {N : Nat → Int32} {a2 r : Int32} {S S2 : MS} (hf : f_X4_hasFloors RD sn N a2 S = some (r, S2)) : CP l E yX4_hasFloors cX4_hasFloors 4 (some .boolean) 6 0 0 ((q0, .inr (7, [.ref q1, .int sb, .int sn])) :: (q1, .inl (E.cI, 40, .inl N)) :: roL Q RD) [.ref (ad 0), .ref q0, .int a2] (lW E ad Q S) (fun rv w => rv = some (.int r) ∧ w = lW E ad Q S2) :=
  CP.of (lv := [(0, .ref (ad 0)), (1, .ref q0), (2, .int a2)]) (by decide +kernel) (Nat.le_of_ble_eq_true rfl) rfl (fun X hl hE hro hX hq hn => by subst hl; subst hE; exact t_X4_hasFloors_0 (sb := sb) (fun z hz => by rw [hro]; exact List.mem_cons_of_mem _ (List.mem_cons_of_mem _ hz)) (by rw [hro]; exact List.mem_cons_self) (by rw [hro]; exact List.mem_cons_of_mem _ List.mem_cons_self) hX hq ⟨rfl, rfl⟩ a2 S hf)
