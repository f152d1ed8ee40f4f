section LAWC
variable {X : Cx} {ce sl i b L : Nat} {xs : Nat → Int32} {ad Q md : Nat → Nat} {kv : Value} {S M : MS} {K RC : va_W} {RD : RDt}
theorem law_rider_bad (hX : Ok X code 4 RL) (hL : Lw X b L xs) (hi : i + 6 ≤ L) (hc : ce + 20 ≤ 600000) (hs : sl + 2000 ≤ 7302250) (R : Rel RD S M) (hQ : ∀ q ∈ roL Q RD, q ∈ RC) (hK : KO X.E kv K RC M) (kk : Go X b ad md i ce sl) (hbad : inR (xs (i + 1)) 70 = false ∨ rN (M.1 1) = 6) : G X 4 ce sl 300 (lvL b (ad 10) (md 0) i) [] (LW X.E ad Q kv S K RC md M) := by
  obtain ⟨v, S2, M2, h1, h2, R2, e1, e2⟩ := rider_bad R hbad
  refine g_aloadn hX 2 rfl rfl dL_300 ?_
  refine gl_arg hX hL (j := 1) (by decide) (by omega) dL_301 dL_302 dL_303 dL_304 dL_305 ?_
  refine gl_x (v := v) (S2 := S2) (RD := RD) [.int (xs (i + 1))] hX hL.1 kwl_X11_rider (c_X11_rider R.rk h1) hQ (by decide) (by omega) (by omega) rfl rfl (Nat.le_of_ble_eq_true rfl) dL_306 ?_
  refine g_aloadn hX 1 rfl rfl dL_309 ?_
  refine gl_arg hX hL (j := 1) (by decide) (by omega) dL_310 dL_311 dL_312 dL_313 dL_314 ?_
  refine gl_m (M2 := M2) [.int (xs (i + 1))] hX hL.1 kwl_X12_rider (c_X12_rider h2) (by decide) (by omega) (by omega) rfl rfl (Nat.le_of_ble_eq_true rfl) dL_315 ?_
  exact g_icmp_eq hX 1398 (by decide) dL_318 (fun _ => g_widen (by omega) (by omega) (kk Q kv S2 M2 K RC RD R2 hQ (hK.go (fun _ h => h) e1 e2))) (fun c => absurd rfl c)
theorem law_become_bad (hX : Ok X code 4 RL) (hL : Lw X b L xs) (hi : i + 6 ≤ L) (hc : ce + 20 ≤ 600000) (hs : sl + 2000 ≤ 7302250) (R : Rel RD S M) (hQ : ∀ q ∈ roL Q RD, q ∈ RC) (hK : KO X.E kv K RC M) (kk : Go X b ad md i ce sl) (hbad : inR (xs (i + 1)) (rN (M.1 1)) = false ∨ inR (xs (i + 2)) 70 = false) : G X 4 ce sl 432 (lvL b (ad 10) (md 0) i) [] (LW X.E ad Q kv S K RC md M) := by
  obtain ⟨v, S2, M2, h1, h2, R2, e1, e2⟩ := become_bad R hbad
  refine g_aloadn hX 2 rfl rfl dL_432 ?_
  refine gl_arg hX hL (j := 1) (by decide) (by omega) dL_433 dL_434 dL_435 dL_436 dL_437 ?_
  refine gl_arg hX hL (j := 2) (by decide) (by omega) dL_438 dL_439 dL_440 dL_441 dL_442 ?_
  refine gl_x (v := v) (S2 := S2) (RD := RD) [.int (xs (i + 1)), .int (xs (i + 2))] hX hL.1 kwl_X11_become (c_X11_become R.rk h1) hQ (by decide) (by omega) (by omega) rfl rfl (Nat.le_of_ble_eq_true rfl) dL_443 ?_
  refine g_aloadn hX 1 rfl rfl dL_446 ?_
  refine gl_arg hX hL (j := 1) (by decide) (by omega) dL_447 dL_448 dL_449 dL_450 dL_451 ?_
  refine gl_arg hX hL (j := 2) (by decide) (by omega) dL_452 dL_453 dL_454 dL_455 dL_456 ?_
  refine gl_m (M2 := M2) [.int (xs (i + 1)), .int (xs (i + 2))] hX hL.1 kwl_X12_become (c_X12_become h2) (by decide) (by omega) (by omega) rfl rfl (Nat.le_of_ble_eq_true rfl) dL_457 ?_
  exact g_icmp_eq hX 1398 (by decide) dL_460 (fun _ => g_widen (by omega) (by omega) (kk Q kv S2 M2 K RC RD R2 hQ (hK.go (fun _ h => h) e1 e2))) (fun c => absurd rfl c)
theorem perm_rc (a k r m : va_W) (c : Nat × va_E) : ([] ++ ((a ++ [c]) ++ (k ++ (r ++ m)))).Perm (a ++ (k ++ ((c :: r) ++ m))) := by
  rw [List.nil_append, List.append_assoc]
  exact List.Perm.append_left a (show (c :: (k ++ (r ++ m))).Perm (k ++ c :: (r ++ m)) from List.perm_middle.symm)
theorem ro_up {k q : Nat} {z : Nat × Int32 × Int32 × Int32} (hQ : ∀ q ∈ roL Q RD, q ∈ RC) : ∀ w ∈ roL (upQ Q k q) (upQ RD k z), w ∈ (q, rcl z) :: RC := by
  intro w hw
  obtain ⟨j, hj, rfl⟩ := List.mem_map.mp hw
  by_cases h : j = k
  · rw [h, upQ_e, upQ_e]
    exact List.mem_cons_self
  · rw [upQ_n h, upQ_n h]
    exact List.mem_cons_of_mem _ (hQ _ (List.mem_map.mpr ⟨j, hj, rfl⟩))
theorem law_rider (hX : Ok X code 4 RL) (hL : Lw X b L xs) (hi : i + 6 ≤ L) (hc : ce + 20 ≤ 600000) (hs : sl + 2000 ≤ 7302250) (R : Rel RD S M) (hQ : ∀ q ∈ roL Q RD, q ∈ RC) (hK : KO X.E kv K RC M) (kk : Go X b ad md i ce sl) : G X 4 ce sl 300 (lvL b (ad 10) (md 0) i) [] (LW X.E ad Q kv S K RC md M) := by
  by_cases hb : inR (xs (i + 1)) 70 = false ∨ rN (M.1 1) = 6
  · exact law_rider_bad hX hL hi hc hs R hQ hK kk hb
  have hb1 : inR (xs (i + 1)) 70 = true := by
    cases h : inR (xs (i + 1)) 70
    · exact absurd (Or.inl h) hb
    · rfl
  have hn : rN (M.1 1) < 6 := by
    have h7 := R.n7
    have h6 : ¬ rN (M.1 1) = 6 := fun z => hb (Or.inr z)
    omega
  obtain ⟨c, hc70, hx1, -⟩ := inR_t hb1
  obtain ⟨M2, h2, R2, e1, e2⟩ := rider_ok R hc70 hn
  have hkm := c_isKm (xs (i + 1))
  rw [hb1] at hkm
  have hC := c_X11_rider_ok (l := X.l) (E := X.E) (ad := ad) (Q := Q) (kv := kv) (RD := RD) (S := S) (k := rN (M.1 1)) hkm (by decide) (by rw [R.n6]; exact nI_lt hn (by decide)) (by rw [R.n6]; exact vp_in_nI hn (by decide)) (by rw [R.n6]; exact nI_clamp (by omega))
  rw [R.n6] at hC
  rw [← hx1] at h2 R2
  refine g_aloadn hX 2 rfl rfl dL_300 ?_
  refine gl_arg hX hL (j := 1) (by decide) (by omega) dL_301 dL_302 dL_303 dL_304 dL_305 ?_
  refine g_eqW (ws2 := [] ++ (xW X.E ad Q kv S ++ (K ++ (RC ++ mW X.E md M)))) rfl (gl_callV (pre := []) (mid := xW X.E ad Q kv S) (post := K ++ (RC ++ mW X.E md M)) [.int (xs (i + 1))] hX hL.1 kwl_X11_rider hC (fun q hq => Or.inr (Or.inr (List.mem_append_right _ (List.mem_append_left _ (hQ q hq))))) (by decide) (by omega) (by omega) rfl (Recv.of 10 11 rfl rfl) rfl (Nat.le_of_ble_eq_true rfl) dL_306 (fun rv ws2 hp => ?_))
  obtain ⟨rfl, q, rfl⟩ := hp
  refine g_perm (perm_rc _ _ _ _ _) ?_
  refine g_aloadn hX 1 rfl rfl dL_309 ?_
  refine gl_arg hX hL (j := 1) (by decide) (by omega) dL_310 dL_311 dL_312 dL_313 dL_314 ?_
  refine gl_m (M2 := M2) [.int (xs (i + 1))] hX hL.1 kwl_X12_rider (c_X12_rider h2) (by decide) (by omega) (by omega) rfl rfl (Nat.le_of_ble_eq_true rfl) dL_315 ?_
  exact g_icmp_eq hX 1398 (by decide) dL_318 (fun _ => g_widen (by omega) (by omega) (kk _ _ _ _ _ _ _ R2 (ro_up hQ) (hK.go (fun _ h => List.mem_cons_of_mem _ h) e1 e2))) (fun c => absurd rfl c)
theorem law_become (hX : Ok X code 4 RL) (hL : Lw X b L xs) (hi : i + 6 ≤ L) (hc : ce + 20 ≤ 600000) (hs : sl + 2000 ≤ 7302250) (R : Rel RD S M) (hQ : ∀ q ∈ roL Q RD, q ∈ RC) (hK : KO X.E kv K RC M) (kk : Go X b ad md i ce sl) : G X 4 ce sl 432 (lvL b (ad 10) (md 0) i) [] (LW X.E ad Q kv S K RC md M) := by
  by_cases hb : inR (xs (i + 1)) (rN (M.1 1)) = false ∨ inR (xs (i + 2)) 70 = false
  · exact law_become_bad hX hL hi hc hs R hQ hK kk hb
  have hb1 : inR (xs (i + 1)) (rN (M.1 1)) = true := by
    cases h : inR (xs (i + 1)) (rN (M.1 1))
    · exact absurd (Or.inl h) hb
    · rfl
  have hb2 : inR (xs (i + 2)) 70 = true := by
    cases h : inR (xs (i + 2)) 70
    · exact absurd (Or.inr h) hb
    · rfl
  obtain ⟨n, hn, hx1, -⟩ := inR_t hb1
  obtain ⟨c, hc70, hx2, -⟩ := inR_t hb2
  obtain ⟨M2, h2, R2, e1, e2⟩ := become_ok R hn hc70
  have h7 := R.n7
  have hkm := c_isKm (xs (i + 2))
  rw [hb2] at hkm
  have hri := R.cR (xs (i + 1))
  rw [hb1] at hri
  have hC := c_X11_become_ok (l := X.l) (E := X.E) (ad := ad) (Q := Q) (kv := kv) (k := n) R.rk hri (by decide) hkm (by decide) (by rw [hx1]; exact vp_in_nI (by omega) (by decide)) (by rw [hx1]; exact nI_clamp (by omega))
  rw [← hx1, ← hx2] at h2 R2
  refine g_aloadn hX 2 rfl rfl dL_432 ?_
  refine gl_arg hX hL (j := 1) (by decide) (by omega) dL_433 dL_434 dL_435 dL_436 dL_437 ?_
  refine gl_arg hX hL (j := 2) (by decide) (by omega) dL_438 dL_439 dL_440 dL_441 dL_442 ?_
  refine g_eqW (ws2 := [] ++ (xW X.E ad Q kv S ++ (K ++ (RC ++ mW X.E md M)))) rfl (gl_callV (pre := []) (mid := xW X.E ad Q kv S) (post := K ++ (RC ++ mW X.E md M)) [.int (xs (i + 1)), .int (xs (i + 2))] hX hL.1 kwl_X11_become hC (fun q hq => Or.inr (Or.inr (List.mem_append_right _ (List.mem_append_left _ (hQ q hq))))) (by decide) (by omega) (by omega) rfl (Recv.of 10 11 rfl rfl) rfl (Nat.le_of_ble_eq_true rfl) dL_443 (fun rv ws2 hp => ?_))
  obtain ⟨rfl, q, rfl⟩ := hp
  refine g_perm (perm_rc _ _ _ _ _) ?_
  refine g_aloadn hX 1 rfl rfl dL_446 ?_
  refine gl_arg hX hL (j := 1) (by decide) (by omega) dL_447 dL_448 dL_449 dL_450 dL_451 ?_
  refine gl_arg hX hL (j := 2) (by decide) (by omega) dL_452 dL_453 dL_454 dL_455 dL_456 ?_
  refine gl_m (M2 := M2) [.int (xs (i + 1)), .int (xs (i + 2))] hX hL.1 kwl_X12_become (c_X12_become h2) (by decide) (by omega) (by omega) rfl rfl (Nat.le_of_ble_eq_true rfl) dL_457 ?_
  exact g_icmp_eq hX 1398 (by decide) dL_460 (fun _ => g_widen (by omega) (by omega) (kk _ _ _ _ _ _ _ R2 (ro_up hQ) (hK.go (fun _ h => List.mem_cons_of_mem _ h) e1 e2))) (fun c => absurd rfl c)
theorem assoc5 (a k r : va_W) : a ++ (k ++ r) = [] ++ ((a ++ k) ++ r) := by simp only [List.nil_append, List.append_assoc]
theorem law_image {U : MS} {u : Int32} (hw : f_X4_workOutWorth RD0 L00 = some (u, U)) (hX : Ok X code 4 RL) (hL : Lw X b L xs) (hi : i + 6 ≤ L) (hc : ce + 20 ≤ 600000) (hs : sl + 2000 ≤ 7302250) (R : Rel RD S M) (hQ : ∀ q ∈ roL Q RD, q ∈ RC) (hK : KO X.E kv K RC M) (kk : Go X b ad md i ce sl) : G X 4 ce sl 1290 (lvL b (ad 10) (md 0) i) [] (LW X.E ad Q kv S K RC md M) := by
  obtain ⟨M2, h2, R2, k2, l2⟩ := image_ok R
  rcases hK with ⟨rfl, rfl, -⟩ | ⟨bd, P, V, RDk, rfl, rfl, k1, -, -⟩
  · refine g_aloadn hX 2 rfl rfl dL_1290 ?_
    refine g_eqW (ws2 := [] ++ (xW X.E ad Q .null S ++ (RC ++ mW X.E md M))) rfl (gl_callV (pre := []) (mid := xW X.E ad Q .null S) (post := RC ++ mW X.E md M) [] hX hL.1 kwl_X11_image (c_X11_image_1 R.rk hw) (fun q hq => Or.inr (Or.inr (List.mem_append_left _ (hQ q hq)))) (by decide) (by omega) (by omega) rfl (Recv.of 10 11 rfl rfl) rfl (Nat.le_of_ble_eq_true rfl) dL_1291 (fun rv ws2 hp => ?_))
    obtain ⟨rfl, bd, rfl⟩ := hp
    refine g_eqW (assoc5 _ _ _) ?_
    refine g_aloadn hX 1 rfl rfl dL_1294 ?_
    refine gl_m (M2 := M2) [] hX hL.1 kwl_X12_image (c_X12_image h2) (by decide) (by omega) (by omega) rfl rfl (Nat.le_of_ble_eq_true rfl) dL_1295 ?_
    exact g_icmp_eq hX 1398 (by decide) dL_1298 (fun _ => g_widen (by omega) (by omega) (kk _ _ _ _ _ _ _ R2 hQ (Or.inr ⟨bd, Q, _, RD, rfl, rfl, k2, l2 U, hQ⟩))) (fun c => absurd rfl c)
  · refine g_aloadn hX 2 rfl rfl dL_1290 ?_
    refine g_eqW (assoc5 _ _ _).symm (gl_callV (pre := []) (mid := xW X.E ad Q (.ref (bd 0)) S ++ lW X.E bd P V) (post := RC ++ mW X.E md M) [] hX hL.1 kwl_X11_image (c_X11_image_2 R.rk) (fun q hq => Or.inr (Or.inr (List.mem_append_left _ (hQ q hq)))) (by decide) (by omega) (by omega) rfl (Recv.of 10 11 rfl rfl) rfl (Nat.le_of_ble_eq_true rfl) dL_1291 (fun rv ws2 hp => ?_))
    obtain ⟨rfl, rfl⟩ := hp
    refine g_eqW (assoc5 _ _ _) ?_
    refine g_aloadn hX 1 rfl rfl dL_1294 ?_
    refine gl_m (M2 := M2) [] hX hL.1 kwl_X12_image (c_X12_image h2) (by decide) (by omega) (by omega) rfl rfl (Nat.le_of_ble_eq_true rfl) dL_1295 ?_
    exact g_icmp_eq hX 1398 (by decide) dL_1298 (fun _ => g_widen (by omega) (by omega) (kk _ _ _ _ _ _ _ R2 hQ (Or.inr ⟨bd, Q, _, RD, rfl, rfl, k2, l2 V, hQ⟩))) (fun c => absurd rfl c)
theorem law_restore (hX : Ok X code 4 RL) (hL : Lw X b L xs) (hi : i + 6 ≤ L) (hc : ce + 20 ≤ 600000) (hs : sl + 2000 ≤ 7302250) (R : Rel RD S M) (hQ : ∀ q ∈ roL Q RD, q ∈ RC) (hK : KO X.E kv K RC M) (kk : Go X b ad md i ce sl) : G X 4 ce sl 1303 (lvL b (ad 10) (md 0) i) [] (LW X.E ad Q kv S K RC md M) := by
  rcases hK with ⟨rfl, rfl, k0⟩ | ⟨bd, P, V, RDk, rfl, rfl, k1, lk, hP⟩
  · obtain ⟨S2, M2, h1, h2, R2, e1, e2⟩ := restore_bad R k0
    refine g_aloadn hX 2 rfl rfl dL_1303 ?_
    refine gl_x (S2 := S2) (RD := RD) [] hX hL.1 kwl_X11_restore (c_X11_restore_1 R.rk h1) hQ (by decide) (by omega) (by omega) rfl rfl (Nat.le_of_ble_eq_true rfl) dL_1304 ?_
    refine g_aloadn hX 1 rfl rfl dL_1307 ?_
    refine gl_m (M2 := M2) [] hX hL.1 kwl_X12_restore (c_X12_restore h2) (by decide) (by omega) (by omega) rfl rfl (Nat.le_of_ble_eq_true rfl) dL_1308 ?_
    exact g_icmp_eq hX 1398 (by decide) dL_1311 (fun _ => g_widen (by omega) (by omega) (kk _ _ _ _ _ _ _ R2 hQ (Or.inl ⟨rfl, rfl, e2.trans k0⟩))) (fun c => absurd rfl c)
  · obtain ⟨M2, h2, R2, e1, e2⟩ := restore_ok R k1 lk
    refine g_aloadn hX 2 rfl rfl dL_1303 ?_
    refine g_eqW (assoc5 _ _ _).symm (gl_callV (pre := []) (mid := xW X.E ad Q (.ref (bd 0)) S ++ lW X.E bd P V) (post := RC ++ mW X.E md M) [] hX hL.1 kwl_X11_restore (c_X11_restore_2 lk.rk) (fun q hq => Or.inr (Or.inr (List.mem_append_left _ (hP q hq)))) (by decide) (by omega) (by omega) rfl (Recv.of 10 11 rfl rfl) rfl (Nat.le_of_ble_eq_true rfl) dL_1304 (fun rv ws2 hp => ?_))
    obtain ⟨rfl, rfl⟩ := hp
    refine g_eqW (assoc5 _ _ _) ?_
    refine g_aloadn hX 1 rfl rfl dL_1307 ?_
    refine gl_m (M2 := M2) [] hX hL.1 kwl_X12_restore (c_X12_restore h2) (by decide) (by omega) (by omega) rfl rfl (Nat.le_of_ble_eq_true rfl) dL_1308 ?_
    exact g_icmp_eq hX 1398 (by decide) dL_1311 (fun _ => g_widen (by omega) (by omega) (kk _ _ _ _ _ _ _ R2 hP (Or.inr ⟨bd, P, V, RDk, rfl, rfl, e2.trans k1, by rw [e1]; exact lk, hP⟩))) (fun c => absurd rfl c)
end LAWC
