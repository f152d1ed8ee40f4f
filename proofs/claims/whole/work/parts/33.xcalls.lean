section XCL
variable {X : Cx} {cc : ByteArray} {nL ce sl pc : Nat} {lv : List (Nat × Value)} {st : List Value} {ad : Nat → Nat} {S : MS} {dX mcX msX : Nat} {retX : Option FieldType} {PostX : Option Value → va_W → Prop} {Q : Nat → Nat} {kv : Value} {RD : Nat → Nat × Int32 × Int32 × Int32}
theorem kw_RX11_X4_credit : KwV RX11 114 RX4 yX4_credit cX4_credit 8 (some .int) 3 := ⟨mem_wsV wd_3_48 wd_3_49 wd_3_50 wd_1_2 wd_3_51, rfl, ⟨by decide +kernel, by decide +kernel, by decide +kernel⟩, by decide⟩
theorem k4_X4_credit {S2 : MS} {d : Nat} (hro : ∀ z ∈ roL Q RD, z ∈ X.ro) (hX : Ok X cc nL RX11) (hq : Rq X dX mcX msX retX PostX) {a1 : Int32} {a2 : Int32} {a3 : Int32} {r : Int32} (hM : CP X.l X.E yX4_credit cX4_credit 8 (some .int) d 0 0 (roL Q RD) [.ref (ad 0), .int a1, .int a2, .int a3] (lW X.E ad Q S) (fun rv w => rv = some (.int r) ∧ w = lW X.E ad Q S2)) (hd : d < dX) (hc : ce ≤ mcX) (hs : sl ≤ msX) (hcat : (st.map fun v => v.category).sum ≤ 8) (hdg : decode cc pc = .ok (.invokevirtual 114, 3)) (kk : G X nL ce sl (pc + 3) lv (.int r :: st) (xW X.E ad Q kv (sL S S2))) : G X nL ce sl pc lv (.int a3 :: .int a2 :: .int a1 :: .ref (ad 0) :: st) (xW X.E ad Q kv S) :=
  g_callV (pre := bW X.E ad kv S) (mid := lW X.E ad Q S) (post := []) [.int a1, .int a2, .int a3] hX hq kw_RX11_X4_credit hM hro hd hc hs rfl (Recv.of 13 4 rfl rfl) rfl hcat hdg (fun rv ws2 hp => by obtain ⟨rfl, rfl⟩ := hp; exact kk)
theorem kw_RX11_X4_floor : KwV RX11 117 RX4 yX4_floor cX4_floor 4 (some .int) 3 := ⟨mem_wsV wd_3_95 wd_3_96 wd_3_97 wd_1_2 wd_3_98, rfl, ⟨by decide +kernel, by decide +kernel, by decide +kernel⟩, by decide⟩
theorem k4_X4_floor {S2 : MS} {d : Nat} (hro : ∀ z ∈ roL Q RD, z ∈ X.ro) (hX : Ok X cc nL RX11) (hq : Rq X dX mcX msX retX PostX) {a1 : Int32} {a2 : Int32} {a3 : Int32} {r : Int32} (hM : CP X.l X.E yX4_floor cX4_floor 4 (some .int) d 0 0 (roL Q RD) [.ref (ad 0), .int a1, .int a2, .int a3] (lW X.E ad Q S) (fun rv w => rv = some (.int r) ∧ w = lW X.E ad Q S2)) (hd : d < dX) (hc : ce ≤ mcX) (hs : sl ≤ msX) (hcat : (st.map fun v => v.category).sum ≤ 8) (hdg : decode cc pc = .ok (.invokevirtual 117, 3)) (kk : G X nL ce sl (pc + 3) lv (.int r :: st) (xW X.E ad Q kv (sL S S2))) : G X nL ce sl pc lv (.int a3 :: .int a2 :: .int a1 :: .ref (ad 0) :: st) (xW X.E ad Q kv S) :=
  g_callV (pre := bW X.E ad kv S) (mid := lW X.E ad Q S) (post := []) [.int a1, .int a2, .int a3] hX hq kw_RX11_X4_floor hM hro hd hc hs rfl (Recv.of 13 4 rfl rfl) rfl hcat hdg (fun rv ws2 hp => by obtain ⟨rfl, rfl⟩ := hp; exact kk)
theorem kw_RX11_X4_crowdFloor : KwV RX11 179 RX4 yX4_crowdFloor cX4_crowdFloor 6 (some .int) 1 := ⟨mem_wsV wd_3_208 wd_3_209 wd_3_210 wd_1_2 wd_3_211, rfl, ⟨by decide +kernel, by decide +kernel, by decide +kernel⟩, by decide⟩
theorem k4_X4_crowdFloor {S2 : MS} {d : Nat} (hro : ∀ z ∈ roL Q RD, z ∈ X.ro) (hX : Ok X cc nL RX11) (hq : Rq X dX mcX msX retX PostX) {a1 : Int32} {r : Int32} (hM : CP X.l X.E yX4_crowdFloor cX4_crowdFloor 6 (some .int) d 0 0 (roL Q RD) [.ref (ad 0), .int a1] (lW X.E ad Q S) (fun rv w => rv = some (.int r) ∧ w = lW X.E ad Q S2)) (hd : d < dX) (hc : ce ≤ mcX) (hs : sl ≤ msX) (hcat : (st.map fun v => v.category).sum ≤ 8) (hdg : decode cc pc = .ok (.invokevirtual 179, 3)) (kk : G X nL ce sl (pc + 3) lv (.int r :: st) (xW X.E ad Q kv (sL S S2))) : G X nL ce sl pc lv (.int a1 :: .ref (ad 0) :: st) (xW X.E ad Q kv S) :=
  g_callV (pre := bW X.E ad kv S) (mid := lW X.E ad Q S) (post := []) [.int a1] hX hq kw_RX11_X4_crowdFloor hM hro hd hc hs rfl (Recv.of 13 4 rfl rfl) rfl hcat hdg (fun rv ws2 hp => by obtain ⟨rfl, rfl⟩ := hp; exact kk)
theorem kw_RX11_X4_afterRide : KwV RX11 159 RX4 yX4_afterRide cX4_afterRide 7 (some .int) 2 := ⟨mem_wsV wd_3_168 wd_3_169 wd_3_170 wd_1_2 wd_3_171, rfl, ⟨by decide +kernel, by decide +kernel, by decide +kernel⟩, by decide⟩
theorem k4_X4_afterRide {S2 : MS} {d : Nat} (hro : ∀ z ∈ roL Q RD, z ∈ X.ro) (hX : Ok X cc nL RX11) (hq : Rq X dX mcX msX retX PostX) {a1 : Int32} {a2 : Int32} {r : Int32} (hM : CP X.l X.E yX4_afterRide cX4_afterRide 7 (some .int) d 0 0 (roL Q RD) [.ref (ad 0), .int a1, .int a2] (lW X.E ad Q S) (fun rv w => rv = some (.int r) ∧ w = lW X.E ad Q S2)) (hd : d < dX) (hc : ce ≤ mcX) (hs : sl ≤ msX) (hcat : (st.map fun v => v.category).sum ≤ 8) (hdg : decode cc pc = .ok (.invokevirtual 159, 3)) (kk : G X nL ce sl (pc + 3) lv (.int r :: st) (xW X.E ad Q kv (sL S S2))) : G X nL ce sl pc lv (.int a2 :: .int a1 :: .ref (ad 0) :: st) (xW X.E ad Q kv S) :=
  g_callV (pre := bW X.E ad kv S) (mid := lW X.E ad Q S) (post := []) [.int a1, .int a2] hX hq kw_RX11_X4_afterRide hM hro hd hc hs rfl (Recv.of 13 4 rfl rfl) rfl hcat hdg (fun rv ws2 hp => by obtain ⟨rfl, rfl⟩ := hp; exact kk)
theorem kw_RX11_X4_afterDay : KwV RX11 169 RX4 yX4_afterDay cX4_afterDay 4 (some .int) 1 := ⟨mem_wsV wd_3_185 wd_3_186 wd_3_187 wd_1_2 wd_3_188, rfl, ⟨by decide +kernel, by decide +kernel, by decide +kernel⟩, by decide⟩
theorem k4_X4_afterDay {S2 : MS} {d : Nat} (hro : ∀ z ∈ roL Q RD, z ∈ X.ro) (hX : Ok X cc nL RX11) (hq : Rq X dX mcX msX retX PostX) {a1 : Int32} {r : Int32} (hM : CP X.l X.E yX4_afterDay cX4_afterDay 4 (some .int) d 0 0 (roL Q RD) [.ref (ad 0), .int a1] (lW X.E ad Q S) (fun rv w => rv = some (.int r) ∧ w = lW X.E ad Q S2)) (hd : d < dX) (hc : ce ≤ mcX) (hs : sl ≤ msX) (hcat : (st.map fun v => v.category).sum ≤ 8) (hdg : decode cc pc = .ok (.invokevirtual 169, 3)) (kk : G X nL ce sl (pc + 3) lv (.int r :: st) (xW X.E ad Q kv (sL S S2))) : G X nL ce sl pc lv (.int a1 :: .ref (ad 0) :: st) (xW X.E ad Q kv S) :=
  g_callV (pre := bW X.E ad kv S) (mid := lW X.E ad Q S) (post := []) [.int a1] hX hq kw_RX11_X4_afterDay hM hro hd hc hs rfl (Recv.of 13 4 rfl rfl) rfl hcat hdg (fun rv ws2 hp => by obtain ⟨rfl, rfl⟩ := hp; exact kk)
theorem kw_RX11_X4_countRides : KwV RX11 162 RX4 yX4_countRides cX4_countRides 2 none 1 := ⟨mem_wsV wd_3_176 wd_3_177 wd_3_178 wd_1_2 wd_3_179, rfl, ⟨by decide +kernel, by decide +kernel, by decide +kernel⟩, by decide⟩
theorem k4_X4_countRides {S2 : MS} {d : Nat} (hro : ∀ z ∈ roL Q RD, z ∈ X.ro) (hX : Ok X cc nL RX11) (hq : Rq X dX mcX msX retX PostX) {a1 : Int32} (hM : CP X.l X.E yX4_countRides cX4_countRides 2 none d 0 0 (roL Q RD) [.ref (ad 0), .int a1] (lW X.E ad Q S) (fun rv w => rv = none ∧ w = lW X.E ad Q S2)) (hd : d < dX) (hc : ce ≤ mcX) (hs : sl ≤ msX) (hcat : (st.map fun v => v.category).sum ≤ 8) (hdg : decode cc pc = .ok (.invokevirtual 162, 3)) (kk : G X nL ce sl (pc + 3) lv st (xW X.E ad Q kv (sL S S2))) : G X nL ce sl pc lv (.int a1 :: .ref (ad 0) :: st) (xW X.E ad Q kv S) :=
  g_callV (pre := bW X.E ad kv S) (mid := lW X.E ad Q S) (post := []) [.int a1] hX hq kw_RX11_X4_countRides hM hro hd hc hs rfl (Recv.of 13 4 rfl rfl) rfl hcat hdg (fun rv ws2 hp => by obtain ⟨rfl, rfl⟩ := hp; exact kk)
theorem kw_RX11_X4_countDays : KwV RX11 172 RX4 yX4_countDays cX4_countDays 2 none 1 := ⟨mem_wsV wd_3_190 wd_3_191 wd_3_192 wd_1_2 wd_3_193, rfl, ⟨by decide +kernel, by decide +kernel, by decide +kernel⟩, by decide⟩
theorem k4_X4_countDays {S2 : MS} {d : Nat} (hro : ∀ z ∈ roL Q RD, z ∈ X.ro) (hX : Ok X cc nL RX11) (hq : Rq X dX mcX msX retX PostX) {a1 : Int32} (hM : CP X.l X.E yX4_countDays cX4_countDays 2 none d 0 0 (roL Q RD) [.ref (ad 0), .int a1] (lW X.E ad Q S) (fun rv w => rv = none ∧ w = lW X.E ad Q S2)) (hd : d < dX) (hc : ce ≤ mcX) (hs : sl ≤ msX) (hcat : (st.map fun v => v.category).sum ≤ 8) (hdg : decode cc pc = .ok (.invokevirtual 172, 3)) (kk : G X nL ce sl (pc + 3) lv st (xW X.E ad Q kv (sL S S2))) : G X nL ce sl pc lv (.int a1 :: .ref (ad 0) :: st) (xW X.E ad Q kv S) :=
  g_callV (pre := bW X.E ad kv S) (mid := lW X.E ad Q S) (post := []) [.int a1] hX hq kw_RX11_X4_countDays hM hro hd hc hs rfl (Recv.of 13 4 rfl rfl) rfl hcat hdg (fun rv ws2 hp => by obtain ⟨rfl, rfl⟩ := hp; exact kk)
theorem kw_RX11_X4_draw : KwV RX11 175 RX4 yX4_draw cX4_draw 1 (some .int) 0 := ⟨mem_wsV wd_3_199 wd_3_200 wd_3_201 wd_1_2 wd_3_202, rfl, ⟨by decide +kernel, by decide +kernel, by decide +kernel⟩, by decide⟩
theorem k4_X4_draw {S2 : MS} {d : Nat} (hro : ∀ z ∈ roL Q RD, z ∈ X.ro) (hX : Ok X cc nL RX11) (hq : Rq X dX mcX msX retX PostX) {r : Int32} (hM : CP X.l X.E yX4_draw cX4_draw 1 (some .int) d 0 0 (roL Q RD) [.ref (ad 0)] (lW X.E ad Q S) (fun rv w => rv = some (.int r) ∧ w = lW X.E ad Q S2)) (hd : d < dX) (hc : ce ≤ mcX) (hs : sl ≤ msX) (hcat : (st.map fun v => v.category).sum ≤ 8) (hdg : decode cc pc = .ok (.invokevirtual 175, 3)) (kk : G X nL ce sl (pc + 3) lv (.int r :: st) (xW X.E ad Q kv (sL S S2))) : G X nL ce sl pc lv (.ref (ad 0) :: st) (xW X.E ad Q kv S) :=
  g_callV (pre := bW X.E ad kv S) (mid := lW X.E ad Q S) (post := []) [] hX hq kw_RX11_X4_draw hM hro hd hc hs rfl (Recv.of 13 4 rfl rfl) rfl hcat hdg (fun rv ws2 hp => by obtain ⟨rfl, rfl⟩ := hp; exact kk)
theorem kw_RX11_X4_takeTape : KwV RX11 147 RX4 yX4_takeTape cX4_takeTape 3 (some .int) 1 := ⟨mem_wsV wd_3_143 wd_3_144 wd_3_145 wd_1_2 wd_3_146, rfl, ⟨by decide +kernel, by decide +kernel, by decide +kernel⟩, by decide⟩
theorem k4_X4_takeTape {S2 : MS} {d : Nat} (hro : ∀ z ∈ roL Q RD, z ∈ X.ro) (hX : Ok X cc nL RX11) (hq : Rq X dX mcX msX retX PostX) {a1 : Int32} {r : Int32} (hM : CP X.l X.E yX4_takeTape cX4_takeTape 3 (some .int) d 0 0 (roL Q RD) [.ref (ad 0), .int a1] (lW X.E ad Q S) (fun rv w => rv = some (.int r) ∧ w = lW X.E ad Q S2)) (hd : d < dX) (hc : ce ≤ mcX) (hs : sl ≤ msX) (hcat : (st.map fun v => v.category).sum ≤ 8) (hdg : decode cc pc = .ok (.invokevirtual 147, 3)) (kk : G X nL ce sl (pc + 3) lv (.int r :: st) (xW X.E ad Q kv (sL S S2))) : G X nL ce sl pc lv (.int a1 :: .ref (ad 0) :: st) (xW X.E ad Q kv S) :=
  g_callV (pre := bW X.E ad kv S) (mid := lW X.E ad Q S) (post := []) [.int a1] hX hq kw_RX11_X4_takeTape hM hro hd hc hs rfl (Recv.of 13 4 rfl rfl) rfl hcat hdg (fun rv ws2 hp => by obtain ⟨rfl, rfl⟩ := hp; exact kk)
theorem kw_RX11_X4_lawOf : KwV RX11 150 RX4 yX4_lawOf cX4_lawOf 2 (some (.object RX2)) 1 := ⟨mem_wsV wd_3_162 wd_3_148 wd_3_149 wd_1_2 wd_3_150, rfl, ⟨by decide +kernel, by decide +kernel, by decide +kernel⟩, by decide⟩
theorem kx_lawOf0 (hX : Ok X cc nL RX11) (hq : Rq X dX mcX msX retX PostX) {u : Int32} (h : u = 0) (hd : 0 < dX) (hc : ce ≤ mcX) (hs : sl ≤ msX) (hcat : (st.map fun v => v.category).sum ≤ 8) (hdg : decode cc pc = .ok (.invokevirtual 150, 3)) (kk : G X nL ce sl (pc + 3) lv (.ref (ad 5) :: st) (xW X.E ad Q kv S)) : G X nL ce sl pc lv (.int u :: .ref (ad 0) :: st) (xW X.E ad Q kv S) :=
  g_callV (pre := bW X.E ad kv S) (mid := lW X.E ad Q S) (post := []) [.int u] hX hq kw_RX11_X4_lawOf (c_X4_lawOf0 h) (fun _ h => absurd h List.not_mem_nil) hd hc hs rfl (Recv.of 13 4 rfl rfl) rfl hcat hdg (fun rv ws2 hp => by obtain ⟨rfl, rfl⟩ := hp; exact kk)
theorem kx_lawOf1 (hX : Ok X cc nL RX11) (hq : Rq X dX mcX msX retX PostX) {u : Int32} (h : ¬ u = 0) (hd : 0 < dX) (hc : ce ≤ mcX) (hs : sl ≤ msX) (hcat : (st.map fun v => v.category).sum ≤ 8) (hdg : decode cc pc = .ok (.invokevirtual 150, 3)) (kk : G X nL ce sl (pc + 3) lv (.ref (ad 7) :: st) (xW X.E ad Q kv S)) : G X nL ce sl pc lv (.int u :: .ref (ad 0) :: st) (xW X.E ad Q kv S) :=
  g_callV (pre := bW X.E ad kv S) (mid := lW X.E ad Q S) (post := []) [.int u] hX hq kw_RX11_X4_lawOf (c_X4_lawOf1 h) (fun _ h => absurd h List.not_mem_nil) hd hc hs rfl (Recv.of 13 4 rfl rfl) rfl hcat hdg (fun rv ws2 hp => by obtain ⟨rfl, rfl⟩ := hp; exact kk)
theorem kw_RX11_X2_gives : KwV RX11 154 RX2 yX2_gives cX2_gives 4 (some .int) 3 := ⟨mem_wsV wd_3_163 wd_1_226 wd_1_227 wd_1_3 wd_1_228, rfl, ⟨by decide +kernel, by decide +kernel, by decide +kernel⟩, by decide⟩
theorem kx_gives0 (hX : Ok X cc nL RX11) (hq : Rq X dX mcX msX retX PostX) {a b c r : Int32} {S2 : MS} (h : f_X2_gives 0 (lvF 0 S) a b c (lvS 0 S) = some (r, S2)) (hd : 67 < dX) (hc : ce ≤ mcX) (hs : sl ≤ msX) (hcat : (st.map fun v => v.category).sum ≤ 8) (hdg : decode cc pc = .ok (.invokevirtual 154, 3)) (kk : G X nL ce sl (pc + 3) lv (.int r :: st) (xW X.E ad Q kv (lvJ 0 S S2))) : G X nL ce sl pc lv (.int c :: .int b :: .int a :: .ref (ad 5) :: st) (xW X.E ad Q kv S) := by
  exact g_callV (pre := (List.take 19 (xW X.E ad Q kv S))) (mid := pW X.E (aL0 ad) 0 (ad 6) (rowq (S.2 27) (ad 6) (ad 3)) (lvF 0 S) (lvS 0 S)) (post := (List.drop 21 (xW X.E ad Q kv S))) [.int a, .int b, .int c] hX hq kw_RX11_X2_gives (c_X2_gives (ad := aL0 ad) (by decide) h) (fun _ h => absurd h List.not_mem_nil) hd hc hs rfl (Recv.of 19 2 rfl rfl) rfl hcat hdg (fun rv ws2 hp => by obtain ⟨rfl, rfl⟩ := hp; exact kk)
theorem kx_gives1 (hX : Ok X cc nL RX11) (hq : Rq X dX mcX msX retX PostX) {a b c r : Int32} {S2 : MS} (h : f_X2_gives 2 (lvF 1 S) a b c (lvS 1 S) = some (r, S2)) (hd : 67 < dX) (hc : ce ≤ mcX) (hs : sl ≤ msX) (hcat : (st.map fun v => v.category).sum ≤ 8) (hdg : decode cc pc = .ok (.invokevirtual 154, 3)) (kk : G X nL ce sl (pc + 3) lv (.int r :: st) (xW X.E ad Q kv (lvJ 1 S S2))) : G X nL ce sl pc lv (.int c :: .int b :: .int a :: .ref (ad 7) :: st) (xW X.E ad Q kv S) := by
  exact g_callV (pre := (List.take 21 (xW X.E ad Q kv S))) (mid := pW X.E (aL1 ad) 2 (ad 8) (rowq (S.2 37) (ad 8) (ad 3)) (lvF 1 S) (lvS 1 S)) (post := (List.drop 23 (xW X.E ad Q kv S))) [.int a, .int b, .int c] hX hq kw_RX11_X2_gives (c_X2_gives (ad := aL1 ad) (by decide) h) (fun _ h => absurd h List.not_mem_nil) hd hc hs rfl (Recv.of 21 2 rfl rfl) rfl hcat hdg (fun rv ws2 hp => by obtain ⟨rfl, rfl⟩ := hp; exact kk)
theorem kw_RX11_X4_hasFloors : KwV RX11 201 RX4 yX4_hasFloors cX4_hasFloors 4 (some .boolean) 2 := ⟨mem_wsV wd_4_26 wd_4_27 wd_4_28 wd_1_2 wd_4_29, rfl, ⟨by decide +kernel, by decide +kernel, by decide +kernel⟩, by decide⟩
theorem kx_hasFloors (hro : ∀ z ∈ roL Q RD, z ∈ X.ro) {k : Nat} (hk : k < 4) (hX : Ok X cc nL RX11) (hq : Rq X dX mcX msX retX PostX) {a r : Int32} {S2 : MS} (h : f_X4_hasFloors RD (S.2 (46 + k)) (S.1 (10 + k)) a S = some (r, S2)) (hd : 6 < dX) (hc : ce ≤ mcX) (hs : sl ≤ msX) (hcat : (st.map fun v => v.category).sum ≤ 8) (hdg : decode cc pc = .ok (.invokevirtual 201, 3)) (kk : G X nL ce sl (pc + 3) lv (.int r :: st) (xW X.E ad Q kv (sL S S2))) : G X nL ce sl pc lv (.int a :: .ref (ad (20 + k)) :: .ref (ad 0) :: st) (xW X.E ad Q kv S) := by
  rcases (show k = 0 ∨ k = 1 ∨ k = 2 ∨ k = 3 by omega) with rfl | rfl | rfl | rfl
  · exact g_callV2 (pre := bW X.E ad kv S) (mid := lW X.E ad Q S) (post := []) [.ref (ad 20), .int a] hX hq kw_RX11_X4_hasFloors (c_X4_hasFloors (q0 := ad 20) (q1 := ad 24) (sb := S.2 42) h) (fun z hz => by
      rcases List.mem_cons.mp hz with rfl | hz
      · exact Or.inr (Or.inl (List.mem_of_getElem? (i := 2) rfl))
      rcases List.mem_cons.mp hz with rfl | hz
      · exact Or.inr (Or.inl (List.mem_of_getElem? (i := 3) rfl))
      · exact Or.inl (hro z hz)) hd hc hs rfl (Recv.of 13 4 rfl rfl) rfl hcat hdg (fun rv ws2 hp => by obtain ⟨rfl, rfl⟩ := hp; exact kk)
  · exact g_callV2 (pre := bW X.E ad kv S) (mid := lW X.E ad Q S) (post := []) [.ref (ad 21), .int a] hX hq kw_RX11_X4_hasFloors (c_X4_hasFloors (q0 := ad 21) (q1 := ad 25) (sb := S.2 43) h) (fun z hz => by
      rcases List.mem_cons.mp hz with rfl | hz
      · exact Or.inr (Or.inl (List.mem_of_getElem? (i := 4) rfl))
      rcases List.mem_cons.mp hz with rfl | hz
      · exact Or.inr (Or.inl (List.mem_of_getElem? (i := 5) rfl))
      · exact Or.inl (hro z hz)) hd hc hs rfl (Recv.of 13 4 rfl rfl) rfl hcat hdg (fun rv ws2 hp => by obtain ⟨rfl, rfl⟩ := hp; exact kk)
  · exact g_callV2 (pre := bW X.E ad kv S) (mid := lW X.E ad Q S) (post := []) [.ref (ad 22), .int a] hX hq kw_RX11_X4_hasFloors (c_X4_hasFloors (q0 := ad 22) (q1 := ad 26) (sb := S.2 44) h) (fun z hz => by
      rcases List.mem_cons.mp hz with rfl | hz
      · exact Or.inr (Or.inl (List.mem_of_getElem? (i := 6) rfl))
      rcases List.mem_cons.mp hz with rfl | hz
      · exact Or.inr (Or.inl (List.mem_of_getElem? (i := 7) rfl))
      · exact Or.inl (hro z hz)) hd hc hs rfl (Recv.of 13 4 rfl rfl) rfl hcat hdg (fun rv ws2 hp => by obtain ⟨rfl, rfl⟩ := hp; exact kk)
  · exact g_callV2 (pre := bW X.E ad kv S) (mid := lW X.E ad Q S) (post := []) [.ref (ad 23), .int a] hX hq kw_RX11_X4_hasFloors (c_X4_hasFloors (q0 := ad 23) (q1 := ad 27) (sb := S.2 45) h) (fun z hz => by
      rcases List.mem_cons.mp hz with rfl | hz
      · exact Or.inr (Or.inl (List.mem_of_getElem? (i := 8) rfl))
      rcases List.mem_cons.mp hz with rfl | hz
      · exact Or.inr (Or.inl (List.mem_of_getElem? (i := 9) rfl))
      · exact Or.inl (hro z hz)) hd hc hs rfl (Recv.of 13 4 rfl rfl) rfl hcat hdg (fun rv ws2 hp => by obtain ⟨rfl, rfl⟩ := hp; exact kk)
theorem kw_RX11_X7_isMissing : KwV RX11 238 RX7 yX7_isMissing cX7_isMissing 1 (some .boolean) 0 := ⟨mem_wsV wd_4_22 wd_4_23 wd_4_24 wd_1_18 wd_4_25, rfl, ⟨by decide +kernel, by decide +kernel, by decide +kernel⟩, by decide⟩
theorem kx_X7_isMissing {k : Nat} (hk : k < 4) (hX : Ok X cc nL RX11) (hq : Rq X dX mcX msX retX PostX) {r : Int32} {S2 : MS} (h : f_X7_isMissing (hV k S) = some (r, S2)) (hd : 0 < dX) (hc : ce ≤ mcX) (hs : sl ≤ msX) (hcat : (st.map fun v => v.category).sum ≤ 8) (hdg : decode cc pc = .ok (.invokevirtual 238, 3)) (kk : G X nL ce sl (pc + 3) lv (.int r :: st) (xW X.E ad Q kv (hJ k S S2))) : G X nL ce sl pc lv (.ref (ad (20 + k)) :: st) (xW X.E ad Q kv S) := by
  rcases (show k = 0 ∨ k = 1 ∨ k = 2 ∨ k = 3 by omega) with rfl | rfl | rfl | rfl
  · exact g_callV (pre := List.take 2 (xW X.E ad Q kv S)) (mid := hW X.E (aH 0 ad) (hV 0 S)) (post := List.drop 4 (xW X.E ad Q kv S)) [] hX hq kw_RX11_X7_isMissing (c_X7_isMissing (ad := aH 0 ad) h) (fun _ h => absurd h List.not_mem_nil) hd hc hs rfl (Recv.of 2 7 rfl rfl) rfl hcat hdg (fun rv ws2 hp => by obtain ⟨rfl, rfl⟩ := hp; exact kk)
  · exact g_callV (pre := List.take 4 (xW X.E ad Q kv S)) (mid := hW X.E (aH 1 ad) (hV 1 S)) (post := List.drop 6 (xW X.E ad Q kv S)) [] hX hq kw_RX11_X7_isMissing (c_X7_isMissing (ad := aH 1 ad) h) (fun _ h => absurd h List.not_mem_nil) hd hc hs rfl (Recv.of 4 7 rfl rfl) rfl hcat hdg (fun rv ws2 hp => by obtain ⟨rfl, rfl⟩ := hp; exact kk)
  · exact g_callV (pre := List.take 6 (xW X.E ad Q kv S)) (mid := hW X.E (aH 2 ad) (hV 2 S)) (post := List.drop 8 (xW X.E ad Q kv S)) [] hX hq kw_RX11_X7_isMissing (c_X7_isMissing (ad := aH 2 ad) h) (fun _ h => absurd h List.not_mem_nil) hd hc hs rfl (Recv.of 6 7 rfl rfl) rfl hcat hdg (fun rv ws2 hp => by obtain ⟨rfl, rfl⟩ := hp; exact kk)
  · exact g_callV (pre := List.take 8 (xW X.E ad Q kv S)) (mid := hW X.E (aH 3 ad) (hV 3 S)) (post := List.drop 10 (xW X.E ad Q kv S)) [] hX hq kw_RX11_X7_isMissing (c_X7_isMissing (ad := aH 3 ad) h) (fun _ h => absurd h List.not_mem_nil) hd hc hs rfl (Recv.of 8 7 rfl rfl) rfl hcat hdg (fun rv ws2 hp => by obtain ⟨rfl, rfl⟩ := hp; exact kk)
theorem kw_RX11_X7_renew : KwV RX11 234 RX7 yX7_renew cX7_renew 3 none 2 := ⟨mem_wsV wd_4_144 wd_4_145 wd_4_146 wd_1_18 wd_4_147, rfl, ⟨by decide +kernel, by decide +kernel, by decide +kernel⟩, by decide⟩
theorem kx_X7_renew {k : Nat} (hk : k < 4) (hX : Ok X cc nL RX11) (hq : Rq X dX mcX msX retX PostX) {a1 : Int32} {a2 : Int32} {r : Int32} {S2 : MS} (h : f_X7_renew a1 a2 (hV k S) = some (r, S2)) (hd : 2 < dX) (hc : ce ≤ mcX) (hs : sl ≤ msX) (hcat : (st.map fun v => v.category).sum ≤ 8) (hdg : decode cc pc = .ok (.invokevirtual 234, 3)) (kk : G X nL ce sl (pc + 3) lv st (xW X.E ad Q kv (hJ k S S2))) : G X nL ce sl pc lv (.int a2 :: .int a1 :: .ref (ad (20 + k)) :: st) (xW X.E ad Q kv S) := by
  rcases (show k = 0 ∨ k = 1 ∨ k = 2 ∨ k = 3 by omega) with rfl | rfl | rfl | rfl
  · exact g_callV (pre := List.take 2 (xW X.E ad Q kv S)) (mid := hW X.E (aH 0 ad) (hV 0 S)) (post := List.drop 4 (xW X.E ad Q kv S)) [.int a1, .int a2] hX hq kw_RX11_X7_renew (c_X7_renew (ad := aH 0 ad) h) (fun _ h => absurd h List.not_mem_nil) hd hc hs rfl (Recv.of 2 7 rfl rfl) rfl hcat hdg (fun rv ws2 hp => by obtain ⟨rfl, rfl⟩ := hp; exact kk)
  · exact g_callV (pre := List.take 4 (xW X.E ad Q kv S)) (mid := hW X.E (aH 1 ad) (hV 1 S)) (post := List.drop 6 (xW X.E ad Q kv S)) [.int a1, .int a2] hX hq kw_RX11_X7_renew (c_X7_renew (ad := aH 1 ad) h) (fun _ h => absurd h List.not_mem_nil) hd hc hs rfl (Recv.of 4 7 rfl rfl) rfl hcat hdg (fun rv ws2 hp => by obtain ⟨rfl, rfl⟩ := hp; exact kk)
  · exact g_callV (pre := List.take 6 (xW X.E ad Q kv S)) (mid := hW X.E (aH 2 ad) (hV 2 S)) (post := List.drop 8 (xW X.E ad Q kv S)) [.int a1, .int a2] hX hq kw_RX11_X7_renew (c_X7_renew (ad := aH 2 ad) h) (fun _ h => absurd h List.not_mem_nil) hd hc hs rfl (Recv.of 6 7 rfl rfl) rfl hcat hdg (fun rv ws2 hp => by obtain ⟨rfl, rfl⟩ := hp; exact kk)
  · exact g_callV (pre := List.take 8 (xW X.E ad Q kv S)) (mid := hW X.E (aH 3 ad) (hV 3 S)) (post := List.drop 10 (xW X.E ad Q kv S)) [.int a1, .int a2] hX hq kw_RX11_X7_renew (c_X7_renew (ad := aH 3 ad) h) (fun _ h => absurd h List.not_mem_nil) hd hc hs rfl (Recv.of 8 7 rfl rfl) rfl hcat hdg (fun rv ws2 hp => by obtain ⟨rfl, rfl⟩ := hp; exact kk)
theorem kw_RX11_X7_cut : KwV RX11 246 RX7 yX7_cut cX7_cut 2 (some .int) 1 := ⟨mem_wsV wd_4_156 wd_4_157 wd_4_158 wd_1_18 wd_4_159, rfl, ⟨by decide +kernel, by decide +kernel, by decide +kernel⟩, by decide⟩
theorem kx_X7_cut {k : Nat} (hk : k < 4) (hX : Ok X cc nL RX11) (hq : Rq X dX mcX msX retX PostX) {a1 : Int32} {r : Int32} {S2 : MS} (h : f_X7_cut a1 (hV k S) = some (r, S2)) (hd : 0 < dX) (hc : ce ≤ mcX) (hs : sl ≤ msX) (hcat : (st.map fun v => v.category).sum ≤ 8) (hdg : decode cc pc = .ok (.invokevirtual 246, 3)) (kk : G X nL ce sl (pc + 3) lv (.int r :: st) (xW X.E ad Q kv (hJ k S S2))) : G X nL ce sl pc lv (.int a1 :: .ref (ad (20 + k)) :: st) (xW X.E ad Q kv S) := by
  rcases (show k = 0 ∨ k = 1 ∨ k = 2 ∨ k = 3 by omega) with rfl | rfl | rfl | rfl
  · exact g_callV (pre := List.take 2 (xW X.E ad Q kv S)) (mid := hW X.E (aH 0 ad) (hV 0 S)) (post := List.drop 4 (xW X.E ad Q kv S)) [.int a1] hX hq kw_RX11_X7_cut (c_X7_cut (ad := aH 0 ad) h) (fun _ h => absurd h List.not_mem_nil) hd hc hs rfl (Recv.of 2 7 rfl rfl) rfl hcat hdg (fun rv ws2 hp => by obtain ⟨rfl, rfl⟩ := hp; exact kk)
  · exact g_callV (pre := List.take 4 (xW X.E ad Q kv S)) (mid := hW X.E (aH 1 ad) (hV 1 S)) (post := List.drop 6 (xW X.E ad Q kv S)) [.int a1] hX hq kw_RX11_X7_cut (c_X7_cut (ad := aH 1 ad) h) (fun _ h => absurd h List.not_mem_nil) hd hc hs rfl (Recv.of 4 7 rfl rfl) rfl hcat hdg (fun rv ws2 hp => by obtain ⟨rfl, rfl⟩ := hp; exact kk)
  · exact g_callV (pre := List.take 6 (xW X.E ad Q kv S)) (mid := hW X.E (aH 2 ad) (hV 2 S)) (post := List.drop 8 (xW X.E ad Q kv S)) [.int a1] hX hq kw_RX11_X7_cut (c_X7_cut (ad := aH 2 ad) h) (fun _ h => absurd h List.not_mem_nil) hd hc hs rfl (Recv.of 6 7 rfl rfl) rfl hcat hdg (fun rv ws2 hp => by obtain ⟨rfl, rfl⟩ := hp; exact kk)
  · exact g_callV (pre := List.take 8 (xW X.E ad Q kv S)) (mid := hW X.E (aH 3 ad) (hV 3 S)) (post := List.drop 10 (xW X.E ad Q kv S)) [.int a1] hX hq kw_RX11_X7_cut (c_X7_cut (ad := aH 3 ad) h) (fun _ h => absurd h List.not_mem_nil) hd hc hs rfl (Recv.of 8 7 rfl rfl) rfl hcat hdg (fun rv ws2 hp => by obtain ⟨rfl, rfl⟩ := hp; exact kk)
theorem kw_RX11_X7_holds : KwV RX11 252 RX7 yX7_holds cX7_holds 3 (some .boolean) 2 := ⟨mem_wsV wd_4_164 wd_4_165 wd_4_166 wd_1_18 wd_4_167, rfl, ⟨by decide +kernel, by decide +kernel, by decide +kernel⟩, by decide⟩
theorem kx_X7_holds {k : Nat} (hk : k < 4) (hX : Ok X cc nL RX11) (hq : Rq X dX mcX msX retX PostX) {a1 : Int32} {a2 : Int32} {r : Int32} {S2 : MS} (h : f_X7_holds a1 a2 (hV k S) = some (r, S2)) (hd : 0 < dX) (hc : ce ≤ mcX) (hs : sl ≤ msX) (hcat : (st.map fun v => v.category).sum ≤ 8) (hdg : decode cc pc = .ok (.invokevirtual 252, 3)) (kk : G X nL ce sl (pc + 3) lv (.int r :: st) (xW X.E ad Q kv (hJ k S S2))) : G X nL ce sl pc lv (.int a2 :: .int a1 :: .ref (ad (20 + k)) :: st) (xW X.E ad Q kv S) := by
  rcases (show k = 0 ∨ k = 1 ∨ k = 2 ∨ k = 3 by omega) with rfl | rfl | rfl | rfl
  · exact g_callV (pre := List.take 2 (xW X.E ad Q kv S)) (mid := hW X.E (aH 0 ad) (hV 0 S)) (post := List.drop 4 (xW X.E ad Q kv S)) [.int a1, .int a2] hX hq kw_RX11_X7_holds (c_X7_holds (ad := aH 0 ad) h) (fun _ h => absurd h List.not_mem_nil) hd hc hs rfl (Recv.of 2 7 rfl rfl) rfl hcat hdg (fun rv ws2 hp => by obtain ⟨rfl, rfl⟩ := hp; exact kk)
  · exact g_callV (pre := List.take 4 (xW X.E ad Q kv S)) (mid := hW X.E (aH 1 ad) (hV 1 S)) (post := List.drop 6 (xW X.E ad Q kv S)) [.int a1, .int a2] hX hq kw_RX11_X7_holds (c_X7_holds (ad := aH 1 ad) h) (fun _ h => absurd h List.not_mem_nil) hd hc hs rfl (Recv.of 4 7 rfl rfl) rfl hcat hdg (fun rv ws2 hp => by obtain ⟨rfl, rfl⟩ := hp; exact kk)
  · exact g_callV (pre := List.take 6 (xW X.E ad Q kv S)) (mid := hW X.E (aH 2 ad) (hV 2 S)) (post := List.drop 8 (xW X.E ad Q kv S)) [.int a1, .int a2] hX hq kw_RX11_X7_holds (c_X7_holds (ad := aH 2 ad) h) (fun _ h => absurd h List.not_mem_nil) hd hc hs rfl (Recv.of 6 7 rfl rfl) rfl hcat hdg (fun rv ws2 hp => by obtain ⟨rfl, rfl⟩ := hp; exact kk)
  · exact g_callV (pre := List.take 8 (xW X.E ad Q kv S)) (mid := hW X.E (aH 3 ad) (hV 3 S)) (post := List.drop 10 (xW X.E ad Q kv S)) [.int a1, .int a2] hX hq kw_RX11_X7_holds (c_X7_holds (ad := aH 3 ad) h) (fun _ h => absurd h List.not_mem_nil) hd hc hs rfl (Recv.of 8 7 rfl rfl) rfl hcat hdg (fun rv ws2 hp => by obtain ⟨rfl, rfl⟩ := hp; exact kk)
theorem kx_copy {k k2 : Nat} (hk : k < 4) (hk2 : k2 < 4) (hX : Ok X cc nL RX11) (hq : Rq X dX mcX msX retX PostX) {i j n : Int32} (h : (¬ i < 0 ∧ ¬ j < 0 ∧ ¬ n < 0) ∧ (i.toNatClampNeg + n.toNatClampNeg ≤ 40 ∧ j.toNatClampNeg + n.toNatClampNeg ≤ 40)) (hd : 0 < dX) (hcat : (st.map fun v => v.category).sum ≤ 8) (hdg : decode cc pc = .ok (.invokestatic 255, 3)) (kk : G X nL ce sl (pc + 3) lv st (xW X.E ad Q kv (xCp S k k2 i j n))) : G X nL ce sl pc lv (.int n :: .int j :: .ref (ad (24 + k2)) :: .int i :: .ref (ad (24 + k)) :: st) (xW X.E ad Q kv S) := by
  rcases (show k = 0 ∨ k = 1 ∨ k = 2 ∨ k = 3 by omega) with rfl | rfl | rfl | rfl <;> rcases (show k2 = 0 ∨ k2 = 1 ∨ k2 = 2 ∨ k2 = 3 by omega) with rfl | rfl | rfl | rfl
  · exact g_copyi (ty := .int) hX hq wd_4_168 hd 3 3 0 rfl rfl rfl rfl h.1.1 h.1.2.1 h.1.2.2 h.2.1 h.2.2 (fun _ _ => rfl) hcat (xW X.E ad Q kv (xCp S 0 0 i j n)) rfl hdg kk
  · exact g_copyi (ty := .int) hX hq wd_4_168 hd 3 5 0 rfl rfl rfl rfl h.1.1 h.1.2.1 h.1.2.2 h.2.1 h.2.2 (fun _ _ => rfl) hcat (xW X.E ad Q kv (xCp S 0 1 i j n)) rfl hdg kk
  · exact g_copyi (ty := .int) hX hq wd_4_168 hd 3 7 0 rfl rfl rfl rfl h.1.1 h.1.2.1 h.1.2.2 h.2.1 h.2.2 (fun _ _ => rfl) hcat (xW X.E ad Q kv (xCp S 0 2 i j n)) rfl hdg kk
  · exact g_copyi (ty := .int) hX hq wd_4_168 hd 3 9 0 rfl rfl rfl rfl h.1.1 h.1.2.1 h.1.2.2 h.2.1 h.2.2 (fun _ _ => rfl) hcat (xW X.E ad Q kv (xCp S 0 3 i j n)) rfl hdg kk
  · exact g_copyi (ty := .int) hX hq wd_4_168 hd 5 3 0 rfl rfl rfl rfl h.1.1 h.1.2.1 h.1.2.2 h.2.1 h.2.2 (fun _ _ => rfl) hcat (xW X.E ad Q kv (xCp S 1 0 i j n)) rfl hdg kk
  · exact g_copyi (ty := .int) hX hq wd_4_168 hd 5 5 0 rfl rfl rfl rfl h.1.1 h.1.2.1 h.1.2.2 h.2.1 h.2.2 (fun _ _ => rfl) hcat (xW X.E ad Q kv (xCp S 1 1 i j n)) rfl hdg kk
  · exact g_copyi (ty := .int) hX hq wd_4_168 hd 5 7 0 rfl rfl rfl rfl h.1.1 h.1.2.1 h.1.2.2 h.2.1 h.2.2 (fun _ _ => rfl) hcat (xW X.E ad Q kv (xCp S 1 2 i j n)) rfl hdg kk
  · exact g_copyi (ty := .int) hX hq wd_4_168 hd 5 9 0 rfl rfl rfl rfl h.1.1 h.1.2.1 h.1.2.2 h.2.1 h.2.2 (fun _ _ => rfl) hcat (xW X.E ad Q kv (xCp S 1 3 i j n)) rfl hdg kk
  · exact g_copyi (ty := .int) hX hq wd_4_168 hd 7 3 0 rfl rfl rfl rfl h.1.1 h.1.2.1 h.1.2.2 h.2.1 h.2.2 (fun _ _ => rfl) hcat (xW X.E ad Q kv (xCp S 2 0 i j n)) rfl hdg kk
  · exact g_copyi (ty := .int) hX hq wd_4_168 hd 7 5 0 rfl rfl rfl rfl h.1.1 h.1.2.1 h.1.2.2 h.2.1 h.2.2 (fun _ _ => rfl) hcat (xW X.E ad Q kv (xCp S 2 1 i j n)) rfl hdg kk
  · exact g_copyi (ty := .int) hX hq wd_4_168 hd 7 7 0 rfl rfl rfl rfl h.1.1 h.1.2.1 h.1.2.2 h.2.1 h.2.2 (fun _ _ => rfl) hcat (xW X.E ad Q kv (xCp S 2 2 i j n)) rfl hdg kk
  · exact g_copyi (ty := .int) hX hq wd_4_168 hd 7 9 0 rfl rfl rfl rfl h.1.1 h.1.2.1 h.1.2.2 h.2.1 h.2.2 (fun _ _ => rfl) hcat (xW X.E ad Q kv (xCp S 2 3 i j n)) rfl hdg kk
  · exact g_copyi (ty := .int) hX hq wd_4_168 hd 9 3 0 rfl rfl rfl rfl h.1.1 h.1.2.1 h.1.2.2 h.2.1 h.2.2 (fun _ _ => rfl) hcat (xW X.E ad Q kv (xCp S 3 0 i j n)) rfl hdg kk
  · exact g_copyi (ty := .int) hX hq wd_4_168 hd 9 5 0 rfl rfl rfl rfl h.1.1 h.1.2.1 h.1.2.2 h.2.1 h.2.2 (fun _ _ => rfl) hcat (xW X.E ad Q kv (xCp S 3 1 i j n)) rfl hdg kk
  · exact g_copyi (ty := .int) hX hq wd_4_168 hd 9 7 0 rfl rfl rfl rfl h.1.1 h.1.2.1 h.1.2.2 h.2.1 h.2.2 (fun _ _ => rfl) hcat (xW X.E ad Q kv (xCp S 3 2 i j n)) rfl hdg kk
  · exact g_copyi (ty := .int) hX hq wd_4_168 hd 9 9 0 rfl rfl rfl rfl h.1.1 h.1.2.1 h.1.2.2 h.2.1 h.2.2 (fun _ _ => rfl) hcat (xW X.E ad Q kv (xCp S 3 3 i j n)) rfl hdg kk
def fv_says (R : Nat × Int32 × Int32 × Int32) (x : Int32) (S : MS) : Option (Int32 × MS) :=
  if R.1 = 0 then f_R0_X0_says R.2.2.1 R.2.2.2 x S else
  if R.1 = 1 then f_R1_X0_says R.2.2.1 R.2.2.2 x S else
  if R.1 = 3 then f_R3_X6_says R.2.2.1 R.2.2.2 x S else
  if R.1 = 5 then f_R5_X6_says R.2.2.1 R.2.2.2 x S else
  if R.1 = 6 then f_R6_X6_says R.2.2.1 R.2.2.2 x S else
  if R.1 = 8 then f_R8_X6_says R.2.2.1 R.2.2.2 x S else
  if R.1 = 10 then f_R10_X6_says R.2.2.1 R.2.2.2 x S else
  none
theorem kwr_RX11_218_invokevirtual_0 : KwO RX11 218 RX0 RX6 yX6_says yX0_says cX0_says 3 (some .int) 2 := ⟨mem_wsO wd_4_50 wd_4_53 wd_4_51 wd_4_54 wd_4_55 wd_1_10 wd_4_56, ⟨_, _, _, wd_4_67⟩, ⟨by decide +kernel, by decide +kernel, by decide +kernel⟩, by decide⟩
theorem kwr_RX11_218_invokevirtual_1 : KwO RX11 218 RX1 RX6 yX6_says yX0_says cX0_says 3 (some .int) 2 := ⟨mem_wsO wd_4_50 wd_4_53 wd_4_51 wd_4_62 wd_4_55 wd_1_10 wd_4_56, ⟨_, _, _, wd_4_67⟩, ⟨by decide +kernel, by decide +kernel, by decide +kernel⟩, by decide⟩
theorem kwr_RX11_218_invokevirtual_3 : KwO RX11 218 RX3 RX6 yX6_says yX6_says cX6_says 3 (some .int) 2 := ⟨mem_wsO wd_4_50 wd_4_53 wd_4_51 wd_4_63 wd_4_51 wd_1_9 wd_4_67, ⟨_, _, _, wd_4_67⟩, ⟨by decide +kernel, by decide +kernel, by decide +kernel⟩, by decide⟩
theorem kwr_RX11_218_invokevirtual_5 : KwO RX11 218 RX5 RX6 yX6_says yX6_says cX6_says 3 (some .int) 2 := ⟨mem_wsO wd_4_50 wd_4_53 wd_4_51 wd_4_64 wd_4_51 wd_1_9 wd_4_67, ⟨_, _, _, wd_4_67⟩, ⟨by decide +kernel, by decide +kernel, by decide +kernel⟩, by decide⟩
theorem kwr_RX11_218_invokevirtual_6 : KwV RX11 218 RX6 yX6_says cX6_says 3 (some .int) 2 := ⟨mem_wsV wd_4_50 wd_4_51 wd_4_52 wd_1_9 wd_4_67, rfl, ⟨by decide +kernel, by decide +kernel, by decide +kernel⟩, by decide⟩
theorem kwr_RX11_218_invokevirtual_8 : KwO RX11 218 RX8 RX6 yX6_says yX6_says cX6_says 3 (some .int) 2 := ⟨mem_wsO wd_4_50 wd_4_53 wd_4_51 wd_4_65 wd_4_51 wd_1_9 wd_4_67, ⟨_, _, _, wd_4_67⟩, ⟨by decide +kernel, by decide +kernel, by decide +kernel⟩, by decide⟩
theorem kwr_RX11_218_invokevirtual_10 : KwO RX11 218 RX10 RX6 yX6_says yX6_says cX6_says 3 (some .int) 2 := ⟨mem_wsO wd_4_50 wd_4_53 wd_4_51 wd_4_66 wd_4_51 wd_1_9 wd_4_67, ⟨_, _, _, wd_4_67⟩, ⟨by decide +kernel, by decide +kernel, by decide +kernel⟩, by decide⟩
theorem kx_says (hro : ∀ z ∈ roL Q RD, z ∈ X.ro) {k : Nat} (hk : k < 6) (hX : Ok X cc nL RX11) (hq : Rq X dX mcX msX retX PostX) {x r : Int32} {S2 : MS} (h : fv_says (RD k) x (trV S) = some (r, S2)) (hd : 12 < dX) (hc : ce ≤ mcX) (hs : sl ≤ msX) (hcat : (st.map fun v => v.category).sum ≤ 8) (hdg : decode cc pc = .ok (.invokevirtual 218, 3)) (kk : G X nL ce sl (pc + 3) lv (.int r :: st) (xW X.E ad Q kv (trJ S S2))) : G X nL ce sl pc lv (.int x :: .ref (ad 14) :: .ref (Q k) :: st) (xW X.E ad Q kv S) := by
  have hm := hro _ (roL_in hk)
  unfold fv_says at h
  generalize RD k = R at hm h
  obtain ⟨D, fk, fm, fn⟩ := R
  by_cases c0 : D = 0
  · subst c0
    have h := ite_t rfl h
    exact g_callO (pre := []) (mid := tW X.E (aTr ad) (trV S)) (post := List.drop 2 (xW X.E ad Q kv S)) [.ref (ad 14), .int x] hX hq kwr_RX11_218_invokevirtual_0 (c_R0_X0_says (ad := aTr ad) (q := Q k) (fk := fk) h) (fun z hz => (List.mem_singleton.mp hz) ▸ hm) (by omega) hc hs rfl (Recv.ro 0 hm rfl) rfl hcat hdg (fun rv ws2 hp2 => by obtain ⟨rfl, rfl⟩ := hp2; exact kk)
  have h := ite_f c0 h
  by_cases c1 : D = 1
  · subst c1
    have h := ite_t rfl h
    exact g_callO (pre := []) (mid := tW X.E (aTr ad) (trV S)) (post := List.drop 2 (xW X.E ad Q kv S)) [.ref (ad 14), .int x] hX hq kwr_RX11_218_invokevirtual_1 (c_R1_X0_says (ad := aTr ad) (q := Q k) (fk := fk) h) (fun z hz => (List.mem_singleton.mp hz) ▸ hm) (by omega) hc hs rfl (Recv.ro 1 hm rfl) rfl hcat hdg (fun rv ws2 hp2 => by obtain ⟨rfl, rfl⟩ := hp2; exact kk)
  have h := ite_f c1 h
  by_cases c3 : D = 3
  · subst c3
    have h := ite_t rfl h
    exact g_callO (pre := []) (mid := tW X.E (aTr ad) (trV S)) (post := List.drop 2 (xW X.E ad Q kv S)) [.ref (ad 14), .int x] hX hq kwr_RX11_218_invokevirtual_3 (c_R3_X6_says (ad := aTr ad) (q := Q k) (fk := fk) h) (fun z hz => (List.mem_singleton.mp hz) ▸ hm) (by omega) hc hs rfl (Recv.ro 3 hm rfl) rfl hcat hdg (fun rv ws2 hp2 => by obtain ⟨rfl, rfl⟩ := hp2; exact kk)
  have h := ite_f c3 h
  by_cases c5 : D = 5
  · subst c5
    have h := ite_t rfl h
    exact g_callO (pre := []) (mid := tW X.E (aTr ad) (trV S)) (post := List.drop 2 (xW X.E ad Q kv S)) [.ref (ad 14), .int x] hX hq kwr_RX11_218_invokevirtual_5 (c_R5_X6_says (ad := aTr ad) (q := Q k) (fk := fk) h) (fun z hz => (List.mem_singleton.mp hz) ▸ hm) (by omega) hc hs rfl (Recv.ro 5 hm rfl) rfl hcat hdg (fun rv ws2 hp2 => by obtain ⟨rfl, rfl⟩ := hp2; exact kk)
  have h := ite_f c5 h
  by_cases c6 : D = 6
  · subst c6
    have h := ite_t rfl h
    exact g_callV (pre := []) (mid := tW X.E (aTr ad) (trV S)) (post := List.drop 2 (xW X.E ad Q kv S)) [.ref (ad 14), .int x] hX hq kwr_RX11_218_invokevirtual_6 (c_R6_X6_says (ad := aTr ad) (q := Q k) (fk := fk) h) (fun z hz => (List.mem_singleton.mp hz) ▸ hm) (by omega) hc hs rfl (Recv.ro 6 hm rfl) rfl hcat hdg (fun rv ws2 hp2 => by obtain ⟨rfl, rfl⟩ := hp2; exact kk)
  have h := ite_f c6 h
  by_cases c8 : D = 8
  · subst c8
    have h := ite_t rfl h
    exact g_callO (pre := []) (mid := tW X.E (aTr ad) (trV S)) (post := List.drop 2 (xW X.E ad Q kv S)) [.ref (ad 14), .int x] hX hq kwr_RX11_218_invokevirtual_8 (c_R8_X6_says (ad := aTr ad) (q := Q k) (fk := fk) h) (fun z hz => (List.mem_singleton.mp hz) ▸ hm) (by omega) hc hs rfl (Recv.ro 8 hm rfl) rfl hcat hdg (fun rv ws2 hp2 => by obtain ⟨rfl, rfl⟩ := hp2; exact kk)
  have h := ite_f c8 h
  by_cases c10 : D = 10
  · subst c10
    have h := ite_t rfl h
    exact g_callO (pre := []) (mid := tW X.E (aTr ad) (trV S)) (post := List.drop 2 (xW X.E ad Q kv S)) [.ref (ad 14), .int x] hX hq kwr_RX11_218_invokevirtual_10 (c_R10_X6_says (ad := aTr ad) (q := Q k) (fk := fk) h) (fun z hz => (List.mem_singleton.mp hz) ▸ hm) (by omega) hc hs rfl (Recv.ro 10 hm rfl) rfl hcat hdg (fun rv ws2 hp2 => by obtain ⟨rfl, rfl⟩ := hp2; exact kk)
  have h := ite_f c10 h
  cases h
def fv_rises (R : Nat × Int32 × Int32 × Int32) (x : Int32) (S : MS) : Option (Int32 × MS) :=
  if R.1 = 0 then f_R0_X6_rises R.2.2.1 R.2.2.2 x S else
  if R.1 = 1 then f_R1_X6_rises R.2.2.1 R.2.2.2 x S else
  if R.1 = 3 then f_R3_X3_rises R.2.2.1 R.2.2.2 x S else
  if R.1 = 5 then f_R5_X5_rises R.2.2.1 R.2.2.2 x S else
  if R.1 = 6 then f_R6_X6_rises R.2.2.1 R.2.2.2 x S else
  if R.1 = 8 then f_R8_X6_rises R.2.2.1 R.2.2.2 x S else
  if R.1 = 10 then f_R10_X6_rises R.2.2.1 R.2.2.2 x S else
  none
theorem kwr_RX11_222_invokevirtual_0 : KwO RX11 222 RX0 RX6 yX6_rises yX6_rises cX6_rises 3 (some .int) 2 := ⟨mem_wsO wd_4_69 wd_4_72 wd_4_70 wd_4_73 wd_4_70 wd_1_9 wd_4_94, ⟨_, _, _, wd_4_94⟩, ⟨by decide +kernel, by decide +kernel, by decide +kernel⟩, by decide⟩
theorem kwr_RX11_222_invokevirtual_1 : KwO RX11 222 RX1 RX6 yX6_rises yX6_rises cX6_rises 3 (some .int) 2 := ⟨mem_wsO wd_4_69 wd_4_72 wd_4_70 wd_4_74 wd_4_70 wd_1_9 wd_4_94, ⟨_, _, _, wd_4_94⟩, ⟨by decide +kernel, by decide +kernel, by decide +kernel⟩, by decide⟩
theorem kwr_RX11_222_invokevirtual_3 : KwO RX11 222 RX3 RX6 yX6_rises yX3_rises cX3_rises 3 (some .int) 2 := ⟨mem_wsO wd_4_69 wd_4_72 wd_4_70 wd_4_75 wd_4_76 wd_1_11 wd_4_77, ⟨_, _, _, wd_4_94⟩, ⟨by decide +kernel, by decide +kernel, by decide +kernel⟩, by decide⟩
theorem kwr_RX11_222_invokevirtual_5 : KwO RX11 222 RX5 RX6 yX6_rises yX5_rises cX5_rises 3 (some .int) 2 := ⟨mem_wsO wd_4_69 wd_4_72 wd_4_70 wd_4_87 wd_4_88 wd_1_14 wd_4_89, ⟨_, _, _, wd_4_94⟩, ⟨by decide +kernel, by decide +kernel, by decide +kernel⟩, by decide⟩
theorem kwr_RX11_222_invokevirtual_6 : KwV RX11 222 RX6 yX6_rises cX6_rises 3 (some .int) 2 := ⟨mem_wsV wd_4_69 wd_4_70 wd_4_71 wd_1_9 wd_4_94, rfl, ⟨by decide +kernel, by decide +kernel, by decide +kernel⟩, by decide⟩
theorem kwr_RX11_222_invokevirtual_8 : KwO RX11 222 RX8 RX6 yX6_rises yX6_rises cX6_rises 3 (some .int) 2 := ⟨mem_wsO wd_4_69 wd_4_72 wd_4_70 wd_4_92 wd_4_70 wd_1_9 wd_4_94, ⟨_, _, _, wd_4_94⟩, ⟨by decide +kernel, by decide +kernel, by decide +kernel⟩, by decide⟩
theorem kwr_RX11_222_invokevirtual_10 : KwO RX11 222 RX10 RX6 yX6_rises yX6_rises cX6_rises 3 (some .int) 2 := ⟨mem_wsO wd_4_69 wd_4_72 wd_4_70 wd_4_93 wd_4_70 wd_1_9 wd_4_94, ⟨_, _, _, wd_4_94⟩, ⟨by decide +kernel, by decide +kernel, by decide +kernel⟩, by decide⟩
theorem kx_rises (hro : ∀ z ∈ roL Q RD, z ∈ X.ro) {k : Nat} (hk : k < 6) (hX : Ok X cc nL RX11) (hq : Rq X dX mcX msX retX PostX) {x r : Int32} {S2 : MS} (h : fv_rises (RD k) x (trV S) = some (r, S2)) (hd : 12 < dX) (hc : ce ≤ mcX) (hs : sl ≤ msX) (hcat : (st.map fun v => v.category).sum ≤ 8) (hdg : decode cc pc = .ok (.invokevirtual 222, 3)) (kk : G X nL ce sl (pc + 3) lv (.int r :: st) (xW X.E ad Q kv (trJ S S2))) : G X nL ce sl pc lv (.int x :: .ref (ad 14) :: .ref (Q k) :: st) (xW X.E ad Q kv S) := by
  have hm := hro _ (roL_in hk)
  unfold fv_rises at h
  generalize RD k = R at hm h
  obtain ⟨D, fk, fm, fn⟩ := R
  by_cases c0 : D = 0
  · subst c0
    have h := ite_t rfl h
    exact g_callO (pre := []) (mid := tW X.E (aTr ad) (trV S)) (post := List.drop 2 (xW X.E ad Q kv S)) [.ref (ad 14), .int x] hX hq kwr_RX11_222_invokevirtual_0 (c_R0_X6_rises (ad := aTr ad) (q := Q k) (fk := fk) h) (fun z hz => (List.mem_singleton.mp hz) ▸ hm) (by omega) hc hs rfl (Recv.ro 0 hm rfl) rfl hcat hdg (fun rv ws2 hp2 => by obtain ⟨rfl, rfl⟩ := hp2; exact kk)
  have h := ite_f c0 h
  by_cases c1 : D = 1
  · subst c1
    have h := ite_t rfl h
    exact g_callO (pre := []) (mid := tW X.E (aTr ad) (trV S)) (post := List.drop 2 (xW X.E ad Q kv S)) [.ref (ad 14), .int x] hX hq kwr_RX11_222_invokevirtual_1 (c_R1_X6_rises (ad := aTr ad) (q := Q k) (fk := fk) h) (fun z hz => (List.mem_singleton.mp hz) ▸ hm) (by omega) hc hs rfl (Recv.ro 1 hm rfl) rfl hcat hdg (fun rv ws2 hp2 => by obtain ⟨rfl, rfl⟩ := hp2; exact kk)
  have h := ite_f c1 h
  by_cases c3 : D = 3
  · subst c3
    have h := ite_t rfl h
    exact g_callO (pre := []) (mid := tW X.E (aTr ad) (trV S)) (post := List.drop 2 (xW X.E ad Q kv S)) [.ref (ad 14), .int x] hX hq kwr_RX11_222_invokevirtual_3 (c_R3_X3_rises (ad := aTr ad) (q := Q k) (fk := fk) h) (fun z hz => (List.mem_singleton.mp hz) ▸ hm) (by omega) hc hs rfl (Recv.ro 3 hm rfl) rfl hcat hdg (fun rv ws2 hp2 => by obtain ⟨rfl, rfl⟩ := hp2; exact kk)
  have h := ite_f c3 h
  by_cases c5 : D = 5
  · subst c5
    have h := ite_t rfl h
    exact g_callO (pre := []) (mid := tW X.E (aTr ad) (trV S)) (post := List.drop 2 (xW X.E ad Q kv S)) [.ref (ad 14), .int x] hX hq kwr_RX11_222_invokevirtual_5 (c_R5_X5_rises (ad := aTr ad) (q := Q k) (fk := fk) h) (fun z hz => (List.mem_singleton.mp hz) ▸ hm) (by omega) hc hs rfl (Recv.ro 5 hm rfl) rfl hcat hdg (fun rv ws2 hp2 => by obtain ⟨rfl, rfl⟩ := hp2; exact kk)
  have h := ite_f c5 h
  by_cases c6 : D = 6
  · subst c6
    have h := ite_t rfl h
    exact g_callV (pre := []) (mid := tW X.E (aTr ad) (trV S)) (post := List.drop 2 (xW X.E ad Q kv S)) [.ref (ad 14), .int x] hX hq kwr_RX11_222_invokevirtual_6 (c_R6_X6_rises (ad := aTr ad) (q := Q k) (fk := fk) h) (fun z hz => (List.mem_singleton.mp hz) ▸ hm) (by omega) hc hs rfl (Recv.ro 6 hm rfl) rfl hcat hdg (fun rv ws2 hp2 => by obtain ⟨rfl, rfl⟩ := hp2; exact kk)
  have h := ite_f c6 h
  by_cases c8 : D = 8
  · subst c8
    have h := ite_t rfl h
    exact g_callO (pre := []) (mid := tW X.E (aTr ad) (trV S)) (post := List.drop 2 (xW X.E ad Q kv S)) [.ref (ad 14), .int x] hX hq kwr_RX11_222_invokevirtual_8 (c_R8_X6_rises (ad := aTr ad) (q := Q k) (fk := fk) h) (fun z hz => (List.mem_singleton.mp hz) ▸ hm) (by omega) hc hs rfl (Recv.ro 8 hm rfl) rfl hcat hdg (fun rv ws2 hp2 => by obtain ⟨rfl, rfl⟩ := hp2; exact kk)
  have h := ite_f c8 h
  by_cases c10 : D = 10
  · subst c10
    have h := ite_t rfl h
    exact g_callO (pre := []) (mid := tW X.E (aTr ad) (trV S)) (post := List.drop 2 (xW X.E ad Q kv S)) [.ref (ad 14), .int x] hX hq kwr_RX11_222_invokevirtual_10 (c_R10_X6_rises (ad := aTr ad) (q := Q k) (fk := fk) h) (fun z hz => (List.mem_singleton.mp hz) ▸ hm) (by omega) hc hs rfl (Recv.ro 10 hm rfl) rfl hcat hdg (fun rv ws2 hp2 => by obtain ⟨rfl, rfl⟩ := hp2; exact kk)
  have h := ite_f c10 h
  cases h
def fv_doubts (R : Nat × Int32 × Int32 × Int32) (x : Int32) (S : MS) : Option (Int32 × MS) :=
  if R.1 = 0 then f_R0_X6_doubts R.2.2.1 R.2.2.2 x S else
  if R.1 = 1 then f_R1_X6_doubts R.2.2.1 R.2.2.2 x S else
  if R.1 = 3 then f_R3_X6_doubts R.2.2.1 R.2.2.2 x S else
  if R.1 = 5 then f_R5_X6_doubts R.2.2.1 R.2.2.2 x S else
  if R.1 = 6 then f_R6_X6_doubts R.2.2.1 R.2.2.2 x S else
  if R.1 = 8 then f_R8_X8_doubts R.2.2.1 R.2.2.2 x S else
  if R.1 = 10 then f_R10_X10_doubts R.2.2.1 R.2.2.2 x S else
  none
theorem kwr_RX11_225_invokevirtual_0 : KwO RX11 225 RX0 RX6 yX6_doubts yX6_doubts cX6_doubts 3 (some .int) 2 := ⟨mem_wsO wd_4_96 wd_6_175 wd_4_85 wd_6_176 wd_4_85 wd_1_9 wd_4_86, ⟨_, _, _, wd_4_86⟩, ⟨by decide +kernel, by decide +kernel, by decide +kernel⟩, by decide⟩
theorem kwr_RX11_225_invokevirtual_1 : KwO RX11 225 RX1 RX6 yX6_doubts yX6_doubts cX6_doubts 3 (some .int) 2 := ⟨mem_wsO wd_4_96 wd_6_175 wd_4_85 wd_6_177 wd_4_85 wd_1_9 wd_4_86, ⟨_, _, _, wd_4_86⟩, ⟨by decide +kernel, by decide +kernel, by decide +kernel⟩, by decide⟩
theorem kwr_RX11_225_invokevirtual_3 : KwO RX11 225 RX3 RX6 yX6_doubts yX6_doubts cX6_doubts 3 (some .int) 2 := ⟨mem_wsO wd_4_96 wd_6_175 wd_4_85 wd_6_178 wd_4_85 wd_1_9 wd_4_86, ⟨_, _, _, wd_4_86⟩, ⟨by decide +kernel, by decide +kernel, by decide +kernel⟩, by decide⟩
theorem kwr_RX11_225_invokevirtual_5 : KwO RX11 225 RX5 RX6 yX6_doubts yX6_doubts cX6_doubts 3 (some .int) 2 := ⟨mem_wsO wd_4_96 wd_6_175 wd_4_85 wd_6_179 wd_4_85 wd_1_9 wd_4_86, ⟨_, _, _, wd_4_86⟩, ⟨by decide +kernel, by decide +kernel, by decide +kernel⟩, by decide⟩
theorem kwr_RX11_225_invokevirtual_6 : KwV RX11 225 RX6 yX6_doubts cX6_doubts 3 (some .int) 2 := ⟨mem_wsV wd_4_96 wd_4_85 wd_6_180 wd_1_9 wd_4_86, rfl, ⟨by decide +kernel, by decide +kernel, by decide +kernel⟩, by decide⟩
theorem kwr_RX11_225_invokevirtual_8 : KwO RX11 225 RX8 RX6 yX6_doubts yX8_doubts cX8_doubts 3 (some .int) 2 := ⟨mem_wsO wd_4_96 wd_6_175 wd_4_85 wd_6_181 wd_4_97 wd_1_15 wd_4_98, ⟨_, _, _, wd_4_86⟩, ⟨by decide +kernel, by decide +kernel, by decide +kernel⟩, by decide⟩
theorem kwr_RX11_225_invokevirtual_10 : KwO RX11 225 RX10 RX6 yX6_doubts yX10_doubts cX10_doubts 3 (some .int) 2 := ⟨mem_wsO wd_4_96 wd_6_175 wd_4_85 wd_6_183 wd_4_101 wd_1_12 wd_4_102, ⟨_, _, _, wd_4_86⟩, ⟨by decide +kernel, by decide +kernel, by decide +kernel⟩, by decide⟩
theorem kx_doubts (hro : ∀ z ∈ roL Q RD, z ∈ X.ro) {k : Nat} (hk : k < 6) (hX : Ok X cc nL RX11) (hq : Rq X dX mcX msX retX PostX) {x r : Int32} {S2 : MS} (h : fv_doubts (RD k) x (trV S) = some (r, S2)) (hd : 12 < dX) (hc : ce ≤ mcX) (hs : sl ≤ msX) (hcat : (st.map fun v => v.category).sum ≤ 8) (hdg : decode cc pc = .ok (.invokevirtual 225, 3)) (kk : G X nL ce sl (pc + 3) lv (.int r :: st) (xW X.E ad Q kv (trJ S S2))) : G X nL ce sl pc lv (.int x :: .ref (ad 14) :: .ref (Q k) :: st) (xW X.E ad Q kv S) := by
  have hm := hro _ (roL_in hk)
  unfold fv_doubts at h
  generalize RD k = R at hm h
  obtain ⟨D, fk, fm, fn⟩ := R
  by_cases c0 : D = 0
  · subst c0
    have h := ite_t rfl h
    exact g_callO (pre := []) (mid := tW X.E (aTr ad) (trV S)) (post := List.drop 2 (xW X.E ad Q kv S)) [.ref (ad 14), .int x] hX hq kwr_RX11_225_invokevirtual_0 (c_R0_X6_doubts (ad := aTr ad) (q := Q k) (fk := fk) h) (fun z hz => (List.mem_singleton.mp hz) ▸ hm) (by omega) hc hs rfl (Recv.ro 0 hm rfl) rfl hcat hdg (fun rv ws2 hp2 => by obtain ⟨rfl, rfl⟩ := hp2; exact kk)
  have h := ite_f c0 h
  by_cases c1 : D = 1
  · subst c1
    have h := ite_t rfl h
    exact g_callO (pre := []) (mid := tW X.E (aTr ad) (trV S)) (post := List.drop 2 (xW X.E ad Q kv S)) [.ref (ad 14), .int x] hX hq kwr_RX11_225_invokevirtual_1 (c_R1_X6_doubts (ad := aTr ad) (q := Q k) (fk := fk) h) (fun z hz => (List.mem_singleton.mp hz) ▸ hm) (by omega) hc hs rfl (Recv.ro 1 hm rfl) rfl hcat hdg (fun rv ws2 hp2 => by obtain ⟨rfl, rfl⟩ := hp2; exact kk)
  have h := ite_f c1 h
  by_cases c3 : D = 3
  · subst c3
    have h := ite_t rfl h
    exact g_callO (pre := []) (mid := tW X.E (aTr ad) (trV S)) (post := List.drop 2 (xW X.E ad Q kv S)) [.ref (ad 14), .int x] hX hq kwr_RX11_225_invokevirtual_3 (c_R3_X6_doubts (ad := aTr ad) (q := Q k) (fk := fk) h) (fun z hz => (List.mem_singleton.mp hz) ▸ hm) (by omega) hc hs rfl (Recv.ro 3 hm rfl) rfl hcat hdg (fun rv ws2 hp2 => by obtain ⟨rfl, rfl⟩ := hp2; exact kk)
  have h := ite_f c3 h
  by_cases c5 : D = 5
  · subst c5
    have h := ite_t rfl h
    exact g_callO (pre := []) (mid := tW X.E (aTr ad) (trV S)) (post := List.drop 2 (xW X.E ad Q kv S)) [.ref (ad 14), .int x] hX hq kwr_RX11_225_invokevirtual_5 (c_R5_X6_doubts (ad := aTr ad) (q := Q k) (fk := fk) h) (fun z hz => (List.mem_singleton.mp hz) ▸ hm) (by omega) hc hs rfl (Recv.ro 5 hm rfl) rfl hcat hdg (fun rv ws2 hp2 => by obtain ⟨rfl, rfl⟩ := hp2; exact kk)
  have h := ite_f c5 h
  by_cases c6 : D = 6
  · subst c6
    have h := ite_t rfl h
    exact g_callV (pre := []) (mid := tW X.E (aTr ad) (trV S)) (post := List.drop 2 (xW X.E ad Q kv S)) [.ref (ad 14), .int x] hX hq kwr_RX11_225_invokevirtual_6 (c_R6_X6_doubts (ad := aTr ad) (q := Q k) (fk := fk) h) (fun z hz => (List.mem_singleton.mp hz) ▸ hm) (by omega) hc hs rfl (Recv.ro 6 hm rfl) rfl hcat hdg (fun rv ws2 hp2 => by obtain ⟨rfl, rfl⟩ := hp2; exact kk)
  have h := ite_f c6 h
  by_cases c8 : D = 8
  · subst c8
    have h := ite_t rfl h
    exact g_callO (pre := []) (mid := tW X.E (aTr ad) (trV S)) (post := List.drop 2 (xW X.E ad Q kv S)) [.ref (ad 14), .int x] hX hq kwr_RX11_225_invokevirtual_8 (c_R8_X8_doubts (ad := aTr ad) (q := Q k) (fk := fk) h) (fun z hz => (List.mem_singleton.mp hz) ▸ hm) (by omega) hc hs rfl (Recv.ro 8 hm rfl) rfl hcat hdg (fun rv ws2 hp2 => by obtain ⟨rfl, rfl⟩ := hp2; exact kk)
  have h := ite_f c8 h
  by_cases c10 : D = 10
  · subst c10
    have h := ite_t rfl h
    exact g_callO (pre := []) (mid := tW X.E (aTr ad) (trV S)) (post := List.drop 2 (xW X.E ad Q kv S)) [.ref (ad 14), .int x] hX hq kwr_RX11_225_invokevirtual_10 (c_R10_X10_doubts (ad := aTr ad) (q := Q k) (fk := fk) h) (fun z hz => (List.mem_singleton.mp hz) ▸ hm) (by omega) hc hs rfl (Recv.ro 10 hm rfl) rfl hcat hdg (fun rv ws2 hp2 => by obtain ⟨rfl, rfl⟩ := hp2; exact kk)
  have h := ite_f c10 h
  cases h
def fv_tells (R : Nat × Int32 × Int32 × Int32) (x : Int32) (S : MS) : Option (Int32 × MS) :=
  if R.1 = 0 then f_R0_X6_tells R.2.2.1 R.2.2.2 x S else
  if R.1 = 1 then f_R1_X1_tells R.2.2.1 R.2.2.2 x S else
  if R.1 = 3 then f_R3_X6_tells R.2.2.1 R.2.2.2 x S else
  if R.1 = 5 then f_R5_X6_tells R.2.2.1 R.2.2.2 x S else
  if R.1 = 6 then f_R6_X6_tells R.2.2.1 R.2.2.2 x S else
  if R.1 = 8 then f_R8_X8_tells R.2.2.1 R.2.2.2 x S else
  if R.1 = 10 then f_R10_X6_tells R.2.2.1 R.2.2.2 x S else
  none
theorem kwr_RX11_228_invokevirtual_0 : KwO RX11 228 RX0 RX6 yX6_tells yX6_tells cX6_tells 3 (some .int) 2 := ⟨mem_wsO wd_4_105 wd_4_108 wd_4_106 wd_4_109 wd_4_106 wd_1_9 wd_4_133, ⟨_, _, _, wd_4_133⟩, ⟨by decide +kernel, by decide +kernel, by decide +kernel⟩, by decide⟩
theorem kwr_RX11_228_invokevirtual_1 : KwO RX11 228 RX1 RX6 yX6_tells yX1_tells cX1_tells 3 (some .int) 2 := ⟨mem_wsO wd_4_105 wd_4_108 wd_4_106 wd_4_110 wd_4_111 wd_1_13 wd_4_112, ⟨_, _, _, wd_4_133⟩, ⟨by decide +kernel, by decide +kernel, by decide +kernel⟩, by decide⟩
theorem kwr_RX11_228_invokevirtual_3 : KwO RX11 228 RX3 RX6 yX6_tells yX6_tells cX6_tells 3 (some .int) 2 := ⟨mem_wsO wd_4_105 wd_4_108 wd_4_106 wd_4_121 wd_4_106 wd_1_9 wd_4_133, ⟨_, _, _, wd_4_133⟩, ⟨by decide +kernel, by decide +kernel, by decide +kernel⟩, by decide⟩
theorem kwr_RX11_228_invokevirtual_5 : KwO RX11 228 RX5 RX6 yX6_tells yX6_tells cX6_tells 3 (some .int) 2 := ⟨mem_wsO wd_4_105 wd_4_108 wd_4_106 wd_4_122 wd_4_106 wd_1_9 wd_4_133, ⟨_, _, _, wd_4_133⟩, ⟨by decide +kernel, by decide +kernel, by decide +kernel⟩, by decide⟩
theorem kwr_RX11_228_invokevirtual_6 : KwV RX11 228 RX6 yX6_tells cX6_tells 3 (some .int) 2 := ⟨mem_wsV wd_4_105 wd_4_106 wd_4_107 wd_1_9 wd_4_133, rfl, ⟨by decide +kernel, by decide +kernel, by decide +kernel⟩, by decide⟩
theorem kwr_RX11_228_invokevirtual_8 : KwO RX11 228 RX8 RX6 yX6_tells yX8_tells cX8_tells 3 (some .int) 2 := ⟨mem_wsO wd_4_105 wd_4_108 wd_4_106 wd_4_123 wd_4_124 wd_1_15 wd_4_125, ⟨_, _, _, wd_4_133⟩, ⟨by decide +kernel, by decide +kernel, by decide +kernel⟩, by decide⟩
theorem kwr_RX11_228_invokevirtual_10 : KwO RX11 228 RX10 RX6 yX6_tells yX6_tells cX6_tells 3 (some .int) 2 := ⟨mem_wsO wd_4_105 wd_4_108 wd_4_106 wd_4_132 wd_4_106 wd_1_9 wd_4_133, ⟨_, _, _, wd_4_133⟩, ⟨by decide +kernel, by decide +kernel, by decide +kernel⟩, by decide⟩
theorem kx_tells (hro : ∀ z ∈ roL Q RD, z ∈ X.ro) {k : Nat} (hk : k < 6) (hX : Ok X cc nL RX11) (hq : Rq X dX mcX msX retX PostX) {x r : Int32} {S2 : MS} (h : fv_tells (RD k) x (trV S) = some (r, S2)) (hd : 12 < dX) (hc : ce ≤ mcX) (hs : sl ≤ msX) (hcat : (st.map fun v => v.category).sum ≤ 8) (hdg : decode cc pc = .ok (.invokevirtual 228, 3)) (kk : G X nL ce sl (pc + 3) lv (.int r :: st) (xW X.E ad Q kv (trJ S S2))) : G X nL ce sl pc lv (.int x :: .ref (ad 14) :: .ref (Q k) :: st) (xW X.E ad Q kv S) := by
  have hm := hro _ (roL_in hk)
  unfold fv_tells at h
  generalize RD k = R at hm h
  obtain ⟨D, fk, fm, fn⟩ := R
  by_cases c0 : D = 0
  · subst c0
    have h := ite_t rfl h
    exact g_callO (pre := []) (mid := tW X.E (aTr ad) (trV S)) (post := List.drop 2 (xW X.E ad Q kv S)) [.ref (ad 14), .int x] hX hq kwr_RX11_228_invokevirtual_0 (c_R0_X6_tells (ad := aTr ad) (q := Q k) (fk := fk) h) (fun z hz => (List.mem_singleton.mp hz) ▸ hm) (by omega) hc hs rfl (Recv.ro 0 hm rfl) rfl hcat hdg (fun rv ws2 hp2 => by obtain ⟨rfl, rfl⟩ := hp2; exact kk)
  have h := ite_f c0 h
  by_cases c1 : D = 1
  · subst c1
    have h := ite_t rfl h
    exact g_callO (pre := []) (mid := tW X.E (aTr ad) (trV S)) (post := List.drop 2 (xW X.E ad Q kv S)) [.ref (ad 14), .int x] hX hq kwr_RX11_228_invokevirtual_1 (c_R1_X1_tells (ad := aTr ad) (q := Q k) (fk := fk) h) (fun z hz => (List.mem_singleton.mp hz) ▸ hm) (by omega) hc hs rfl (Recv.ro 1 hm rfl) rfl hcat hdg (fun rv ws2 hp2 => by obtain ⟨rfl, rfl⟩ := hp2; exact kk)
  have h := ite_f c1 h
  by_cases c3 : D = 3
  · subst c3
    have h := ite_t rfl h
    exact g_callO (pre := []) (mid := tW X.E (aTr ad) (trV S)) (post := List.drop 2 (xW X.E ad Q kv S)) [.ref (ad 14), .int x] hX hq kwr_RX11_228_invokevirtual_3 (c_R3_X6_tells (ad := aTr ad) (q := Q k) (fk := fk) h) (fun z hz => (List.mem_singleton.mp hz) ▸ hm) (by omega) hc hs rfl (Recv.ro 3 hm rfl) rfl hcat hdg (fun rv ws2 hp2 => by obtain ⟨rfl, rfl⟩ := hp2; exact kk)
  have h := ite_f c3 h
  by_cases c5 : D = 5
  · subst c5
    have h := ite_t rfl h
    exact g_callO (pre := []) (mid := tW X.E (aTr ad) (trV S)) (post := List.drop 2 (xW X.E ad Q kv S)) [.ref (ad 14), .int x] hX hq kwr_RX11_228_invokevirtual_5 (c_R5_X6_tells (ad := aTr ad) (q := Q k) (fk := fk) h) (fun z hz => (List.mem_singleton.mp hz) ▸ hm) (by omega) hc hs rfl (Recv.ro 5 hm rfl) rfl hcat hdg (fun rv ws2 hp2 => by obtain ⟨rfl, rfl⟩ := hp2; exact kk)
  have h := ite_f c5 h
  by_cases c6 : D = 6
  · subst c6
    have h := ite_t rfl h
    exact g_callV (pre := []) (mid := tW X.E (aTr ad) (trV S)) (post := List.drop 2 (xW X.E ad Q kv S)) [.ref (ad 14), .int x] hX hq kwr_RX11_228_invokevirtual_6 (c_R6_X6_tells (ad := aTr ad) (q := Q k) (fk := fk) h) (fun z hz => (List.mem_singleton.mp hz) ▸ hm) (by omega) hc hs rfl (Recv.ro 6 hm rfl) rfl hcat hdg (fun rv ws2 hp2 => by obtain ⟨rfl, rfl⟩ := hp2; exact kk)
  have h := ite_f c6 h
  by_cases c8 : D = 8
  · subst c8
    have h := ite_t rfl h
    exact g_callO (pre := []) (mid := tW X.E (aTr ad) (trV S)) (post := List.drop 2 (xW X.E ad Q kv S)) [.ref (ad 14), .int x] hX hq kwr_RX11_228_invokevirtual_8 (c_R8_X8_tells (ad := aTr ad) (q := Q k) (fk := fk) h) (fun z hz => (List.mem_singleton.mp hz) ▸ hm) (by omega) hc hs rfl (Recv.ro 8 hm rfl) rfl hcat hdg (fun rv ws2 hp2 => by obtain ⟨rfl, rfl⟩ := hp2; exact kk)
  have h := ite_f c8 h
  by_cases c10 : D = 10
  · subst c10
    have h := ite_t rfl h
    exact g_callO (pre := []) (mid := tW X.E (aTr ad) (trV S)) (post := List.drop 2 (xW X.E ad Q kv S)) [.ref (ad 14), .int x] hX hq kwr_RX11_228_invokevirtual_10 (c_R10_X6_tells (ad := aTr ad) (q := Q k) (fk := fk) h) (fun z hz => (List.mem_singleton.mp hz) ▸ hm) (by omega) hc hs rfl (Recv.ro 10 hm rfl) rfl hcat hdg (fun rv ws2 hp2 => by obtain ⟨rfl, rfl⟩ := hp2; exact kk)
  have h := ite_f c10 h
  cases h
theorem kw_RX11_X11_isOfKind : KwS RX11 133 yX11_isOfKind cX11_isOfKind 2 (some .boolean) 2 := ⟨mem_wsS wd_3_129 wd_3_130 wd_1_1 wd_3_131, ⟨by decide +kernel, by decide +kernel, by decide +kernel⟩, by decide⟩
theorem kx_isOfKind (hro : ∀ z ∈ roL Q RD, z ∈ X.ro) (hRk : ∀ k, k < 6 → isRk (RD k).1) {k : Nat} (hk : k < 6) (hX : Ok X cc nL RX11) (hq : Rq X dX mcX msX retX PostX) {ws : va_W} {a : Int32} (hd : 0 < dX) (hc : ce ≤ mcX) (hs : sl ≤ msX) (hcat : (st.map fun v => v.category).sum ≤ 8) (hdg : decode cc pc = .ok (.invokestatic 133, 3)) (kk : G X nL ce sl (pc + 3) lv (.int (f_isK (RD k).1 a) :: st) ws) : G X nL ce sl pc lv (.int a :: .ref (Q k) :: st) ws := by
  have hm := hro _ (roL_in hk)
  have hr := hRk k hk
  generalize RD k = R at hm hr kk
  obtain ⟨D, fk, fm, fn⟩ := R
  rcases hr with h | h | h | h | h | h | h
  · obtain rfl : D = 0 := h
    exact g_eqW (app0 _) (g_callS (pre := ws) (mid := []) (post := []) [.ref (Q k), .int a] hX hq kw_RX11_X11_isOfKind (c_X11_isOfKind_0 (fk := fk) (fm := fm) (fn := fn)) (fun z hz => (List.mem_singleton.mp hz) ▸ hm) hd hc hs rfl rfl hcat hdg (fun rv ws2 hp2 => by obtain ⟨rfl, rfl⟩ := hp2; exact g_eqW (app0 _).symm kk))
  · obtain rfl : D = 1 := h
    exact g_eqW (app0 _) (g_callS (pre := ws) (mid := []) (post := []) [.ref (Q k), .int a] hX hq kw_RX11_X11_isOfKind (c_X11_isOfKind_1 (fk := fk) (fm := fm) (fn := fn)) (fun z hz => (List.mem_singleton.mp hz) ▸ hm) hd hc hs rfl rfl hcat hdg (fun rv ws2 hp2 => by obtain ⟨rfl, rfl⟩ := hp2; exact g_eqW (app0 _).symm kk))
  · obtain rfl : D = 3 := h
    exact g_eqW (app0 _) (g_callS (pre := ws) (mid := []) (post := []) [.ref (Q k), .int a] hX hq kw_RX11_X11_isOfKind (c_X11_isOfKind_3 (fk := fk) (fm := fm) (fn := fn)) (fun z hz => (List.mem_singleton.mp hz) ▸ hm) hd hc hs rfl rfl hcat hdg (fun rv ws2 hp2 => by obtain ⟨rfl, rfl⟩ := hp2; exact g_eqW (app0 _).symm kk))
  · obtain rfl : D = 5 := h
    exact g_eqW (app0 _) (g_callS (pre := ws) (mid := []) (post := []) [.ref (Q k), .int a] hX hq kw_RX11_X11_isOfKind (c_X11_isOfKind_5 (fk := fk) (fm := fm) (fn := fn)) (fun z hz => (List.mem_singleton.mp hz) ▸ hm) hd hc hs rfl rfl hcat hdg (fun rv ws2 hp2 => by obtain ⟨rfl, rfl⟩ := hp2; exact g_eqW (app0 _).symm kk))
  · obtain rfl : D = 6 := h
    exact g_eqW (app0 _) (g_callS (pre := ws) (mid := []) (post := []) [.ref (Q k), .int a] hX hq kw_RX11_X11_isOfKind (c_X11_isOfKind_6 (fk := fk) (fm := fm) (fn := fn)) (fun z hz => (List.mem_singleton.mp hz) ▸ hm) hd hc hs rfl rfl hcat hdg (fun rv ws2 hp2 => by obtain ⟨rfl, rfl⟩ := hp2; exact g_eqW (app0 _).symm kk))
  · obtain rfl : D = 8 := h
    exact g_eqW (app0 _) (g_callS (pre := ws) (mid := []) (post := []) [.ref (Q k), .int a] hX hq kw_RX11_X11_isOfKind (c_X11_isOfKind_8 (fk := fk) (fm := fm) (fn := fn)) (fun z hz => (List.mem_singleton.mp hz) ▸ hm) hd hc hs rfl rfl hcat hdg (fun rv ws2 hp2 => by obtain ⟨rfl, rfl⟩ := hp2; exact g_eqW (app0 _).symm kk))
  · obtain rfl : D = 10 := h
    exact g_eqW (app0 _) (g_callS (pre := ws) (mid := []) (post := []) [.ref (Q k), .int a] hX hq kw_RX11_X11_isOfKind (c_X11_isOfKind_10 (fk := fk) (fm := fm) (fn := fn)) (fun z hz => (List.mem_singleton.mp hz) ▸ hm) hd hc hs rfl rfl hcat hdg (fun rv ws2 hp2 => by obtain ⟨rfl, rfl⟩ := hp2; exact g_eqW (app0 _).symm kk))
end XCL
