section LAWT
variable {X : Cx} {ce sl i b L : Nat} {xs : Nat → Int32} {ad Q md : Nat → Nat} {kv : Value} {S M : MS} {K RC : va_W} {RD : RDt}
theorem law_turn {U : MS} {u : Int32} (hw : f_X4_workOutWorth RD0 L00 = some (u, U)) (hX : Ok X code 4 RL) (hL : Lw X b L xs) (hi : i + 6 ≤ L) (hc : ce + 20 ≤ 600000) (hs : sl + 2000 ≤ 7302250) (R : Rel RD S M) (hQ : ∀ q ∈ roL Q RD, q ∈ RC) (hK : KO X.E kv K RC M) (kk : Go X b ad md i ce sl) : G X 4 ce sl 27 (lvL b (ad 10) (md 0) i) [] (LW X.E ad Q kv S K RC md M) := by
  have hL3 := hL.2.2.2.2.2.2.2.2.2
  refine g_aloadn hX 3 rfl rfl dL_27 ?_
  refine g_iloadn hX 0 rfl rfl dL_28 ?_
  refine gl_sld hX hL (vp_in_nI (by omega) (by omega)) i (nI_clamp (by omega)) dL_29 ?_
  refine g_bipush hX (v := 63) (by decide) dL_30 ?_
  refine g_iand hX dL_32 ?_
  obtain ⟨j, hj, e⟩ := pk_andE (xs i) (m := 63) 6 (by decide)
  rw [e]
  by_cases h40 : j < 40
  · exact match j, h40 with
    | 0, _ => gl_tableIn hX (off := 175) 208 (by decide) (by decide) (by decide) (by decide) dL_33 (law_hear hX hL hi hc hs R hQ hK kk)
    | 1, _ => gl_tableIn hX (off := 208) 241 (by decide) (by decide) (by decide) (by decide) dL_33 (law_heard hX hL hi hc hs R hQ hK kk)
    | 2, _ => gl_tableIn hX (off := 221) 254 (by decide) (by decide) (by decide) (by decide) dL_33 (law_world hX hL hi hc hs R hQ hK kk)
    | 3, _ => gl_tableIn hX (off := 244) 277 (by decide) (by decide) (by decide) (by decide) dL_33 (law_trust hX hL hi hc hs R hQ hK kk)
    | 4, _ => gl_tableIn hX (off := 267) 300 (by decide) (by decide) (by decide) (by decide) dL_33 (law_rider hX hL hi hc hs R hQ hK kk)
    | 5, _ => gl_tableIn hX (off := 290) 323 (by decide) (by decide) (by decide) (by decide) dL_33 (law_ofRider hX hL hi hc hs R hQ hK kk)
    | 6, _ => gl_tableIn hX (off := 323) 356 (by decide) (by decide) (by decide) (by decide) dL_33 (law_story hX hL hi hc hs R hQ hK kk)
    | 7, _ => gl_tableIn hX (off := 356) 389 (by decide) (by decide) (by decide) (by decide) dL_33 (law_say hX hL hi hc hs R hQ hK kk)
    | 8, _ => gl_tableIn hX (off := 399) 432 (by decide) (by decide) (by decide) (by decide) dL_33 (law_become hX hL hi hc hs R hQ hK kk)
    | 9, _ => gl_tableIn hX (off := 432) 465 (by decide) (by decide) (by decide) (by decide) dL_33 (law_as hX hL hi hc hs R hQ hK kk)
    | 10, _ => gl_tableIn hX (off := 465) 498 (by decide) (by decide) (by decide) (by decide) dL_33 (law_feed hX hL hi hc hs R hQ hK kk)
    | 11, _ => gl_tableIn hX (off := 528) 561 (by decide) (by decide) (by decide) (by decide) dL_33 (law_text hX hL hi hc hs R hQ hK kk)
    | 12, _ => gl_tableIn hX (off := 551) 584 (by decide) (by decide) (by decide) (by decide) dL_33 (law_law hX hL hi hc hs R hQ hK kk)
    | 13, _ => gl_tableIn hX (off := 604) 637 (by decide) (by decide) (by decide) (by decide) dL_33 (law_ride hX hL hi hc hs R hQ hK kk)
    | 14, _ => gl_tableIn hX (off := 627) 660 (by decide) (by decide) (by decide) (by decide) dL_33 (law_days hX hL hi hc hs R hQ hK kk)
    | 15, _ => gl_tableIn hX (off := 650) 683 (by decide) (by decide) (by decide) (by decide) dL_33 (law_rumours hX hL hi hc hs R hQ hK kk)
    | 16, _ => gl_tableIn hX (off := 673) 706 (by decide) (by decide) (by decide) (by decide) dL_33 (law_together hX hL hi hc hs R hQ hK kk)
    | 17, _ => gl_tableIn hX (off := 696) 729 (by decide) (by decide) (by decide) (by decide) dL_33 (law_bestWith hX hL hi hc hs R hQ hK kk)
    | 18, _ => gl_tableIn hX (off := 729) 762 (by decide) (by decide) (by decide) (by decide) dL_33 (law_shortest hX hL hi hc hs R hQ hK kk)
    | 19, _ => gl_tableIn hX (off := 762) 795 (by decide) (by decide) (by decide) (by decide) dL_33 (law_truest hX hL hi hc hs R hQ hK kk)
    | 20, _ => gl_tableIn hX (off := 795) 828 (by decide) (by decide) (by decide) (by decide) dL_33 (law_out hX hL hi hc hs R hQ hK kk)
    | 21, _ => gl_tableIn hX (off := 828) 861 (by decide) (by decide) (by decide) (by decide) dL_33 (law_when hX hL hi hc hs R hQ hK kk)
    | 22, _ => gl_tableIn hX (off := 861) 894 (by decide) (by decide) (by decide) (by decide) dL_33 (law_still hX hL hi hc hs R hQ hK kk)
    | 23, _ => gl_tableIn hX (off := 874) 907 (by decide) (by decide) (by decide) (by decide) dL_33 (law_then hX hL hi hc hs R hQ hK kk)
    | 24, _ => gl_tableIn hX (off := 897) 930 (by decide) (by decide) (by decide) (by decide) dL_33 (law_believed hX hL hi hc hs R hQ hK kk)
    | 25, _ => gl_tableIn hX (off := 930) 963 (by decide) (by decide) (by decide) (by decide) dL_33 (law_word hX hL hi hc hs R hQ hK kk)
    | 26, _ => gl_tableIn hX (off := 973) 1006 (by decide) (by decide) (by decide) (by decide) dL_33 (law_seed hX hL hi hc hs R hQ hK kk)
    | 27, _ => gl_tableIn hX (off := 996) 1029 (by decide) (by decide) (by decide) (by decide) dL_33 (law_voice hX hL hi hc hs R hQ hK kk)
    | 28, _ => gl_tableIn hX (off := 1039) 1072 (by decide) (by decide) (by decide) (by decide) dL_33 (law_trace hX hL hi hc hs R hQ hK kk)
    | 29, _ => gl_tableIn hX (off := 1062) 1095 (by decide) (by decide) (by decide) (by decide) dL_33 (law_sheet hX hL hi hc hs R hQ hK kk)
    | 30, _ => gl_tableIn hX (off := 1105) 1138 (by decide) (by decide) (by decide) (by decide) dL_33 (law_put hX hL hi hc hs R hQ hK kk)
    | 31, _ => gl_tableIn hX (off := 1148) 1181 (by decide) (by decide) (by decide) (by decide) dL_33 (law_move hX hL hi hc hs R hQ hK kk)
    | 32, _ => gl_tableIn hX (off := 1211) 1244 (by decide) (by decide) (by decide) (by decide) dL_33 (law_stories hX hL hi hc hs R hQ hK kk)
    | 33, _ => gl_tableIn hX (off := 1234) 1267 (by decide) (by decide) (by decide) (by decide) dL_33 (law_judge hX hL hi hc hs R hQ hK kk)
    | 34, _ => gl_tableIn hX (off := 1257) 1290 (by decide) (by decide) (by decide) (by decide) dL_33 (law_image hw hX hL hi hc hs R hQ hK kk)
    | 35, _ => gl_tableIn hX (off := 1270) 1303 (by decide) (by decide) (by decide) (by decide) dL_33 (law_restore hX hL hi hc hs R hQ hK kk)
    | 36, _ => gl_tableIn hX (off := 1283) 1316 (by decide) (by decide) (by decide) (by decide) dL_33 (law_tell hX hL hi hc hs R hQ hK kk)
    | 37, _ => gl_tableIn hX (off := 1306) 1339 (by decide) (by decide) (by decide) (by decide) dL_33 (law_check hX hL hi hc hs R hQ hK kk)
    | 38, _ => gl_tableIn hX (off := 1319) 1352 (by decide) (by decide) (by decide) (by decide) dL_33 (law_count hX hL hi hc hs R hQ hK kk)
    | 39, _ => gl_tableIn hX (off := 1342) 1375 (by decide) (by decide) (by decide) (by decide) dL_33 (law_told hX hL hi hc hs R hQ hK kk)
    | n + 40, h => absurd h (by omega)
  · exact gl_tableOut hX 1398 (Or.inr (by rw [nI_toInt (by omega)]; omega)) (by decide) dL_33 (g_widen (by omega) (by omega) (kk Q kv S M K RC RD R hQ hK))
theorem law_loop {U : MS} {u : Int32} (hw : f_X4_workOutWorth RD0 L00 = some (u, U)) (hX : Ok X code 4 RL) (hL : Lw X b L xs) : ∀ (n t ce sl : Nat) (Q : Nat → Nat) (kv : Value) (S M : MS) (K RC : va_W) (RD : RDt), t + n = 513 → ce ≤ 100 + 20 * t → sl ≤ 3000 + 2000 * t → Rel RD S M → (∀ q ∈ roL Q RD, q ∈ RC) → KO X.E kv K RC M → G X 4 ce sl 18 (lvL b (ad 10) (md 0) (6 * t)) [] (LW X.E ad Q kv S K RC md M) := by
  have hL3 := hL.2.2.2.2.2.2.2.2.2
  intro n
  induction n with
  | zero =>
    intro t ce sl Q kv S M K RC RD ht hc hs R hQ hK
    refine g_iloadn hX 0 rfl rfl dL_18 ?_
    refine g_aloadn hX 3 rfl rfl dL_19 ?_
    refine gl_slen hX hL dL_20 ?_
    refine g_bipush hX (v := 6) (by decide) dL_21 ?_
    refine g_isub hX dL_23 ?_
    refine g_icmp_gt hX 1404 (by decide) dL_24 (fun _ => g_iconst hX (v := 1) (by decide) dL_1404 (gl_ret hX hL (by omega) (by omega) dL_1405)) (fun z => absurd ?_ z)
    rw [Int32.lt_iff_toInt_lt, show (6 : Int32) = nI 6 by decide, pk_sub_toInt (by omega) (by decide), nI_toInt (by omega)]
    omega
  | succ n ih =>
    intro t ce sl Q kv S M K RC RD ht hc hs R hQ hK
    refine g_iloadn hX 0 rfl rfl dL_18 ?_
    refine g_aloadn hX 3 rfl rfl dL_19 ?_
    refine gl_slen hX hL dL_20 ?_
    refine g_bipush hX (v := 6) (by decide) dL_21 ?_
    refine g_isub hX dL_23 ?_
    refine g_icmp_gt hX 1404 (by decide) dL_24 (fun _ => g_iconst hX (v := 1) (by decide) dL_1404 (gl_ret hX hL (by omega) (by omega) dL_1405)) (fun z => ?_)
    rw [Int32.lt_iff_toInt_lt, show (6 : Int32) = nI 6 by decide, pk_sub_toInt (by omega) (by decide), nI_toInt (by omega)] at z
    refine law_turn hw hX hL (by omega) (by omega) (by omega) R hQ hK (fun Q kv S M K RC RD R hQ hK => ?_)
    refine g_iinc hX 0 (lvL b (ad 10) (md 0) (6 * (t + 1))) (n := 6) (v := nI (6 * t + 6)) rfl (by rw [show Int32.ofInt 6 = nI 6 by decide]; exact nI_add _ _) (by decide) rfl dL_1398 ?_
    exact g_goto hX 18 (by decide) dL_1401 (ih (t + 1) _ _ Q kv S M K RC RD (by omega) (by omega) (by omega) R hQ hK)
end LAWT
