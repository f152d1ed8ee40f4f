/-! ===== Sheet ===== -/
abbrev hW (E : En) (ad : Nat → Nat) (S : MS) : va_W := [(ad 0, .inr (7, [.ref (ad 1), .int (S.2 0), .int (S.2 1)])), (ad 1, .inl (E.cI, 40, .inl (S.1 1)))]
def sFill (S : MS) (v : Int32) : MS := (fun c => if c = 1 then fun _ => v else S.1 c, S.2)
theorem fill_step {F : Nat → Int32} {v : Int32} {k : Nat} : upd (fun j => if j < k then v else F j) k v = fun j => if j < k + 1 then v else F j := by
  funext j
  unfold upd
  by_cases hj : j = k
  · subst hj
    rw [if_pos rfl, if_pos (Nat.lt_succ_self j)]
  · rw [if_neg hj]
    show (if j < k then v else F j) = _
    by_cases hl : j < k
    · rw [if_pos hl, if_pos (by omega)]
    · rw [if_neg hl, if_neg (by omega)]
theorem t_J7_fill_5 {X : Cx} {t : Nat} {v : Int32} {F : Nat → Int32} {PostX : Option Value → va_W → Prop} (hX : Ok X cJ7_fill_53178 4 RJ7) (hq : Rq X 0 0 0 none PostX) (hp : PostX none [(t, .inl (X.E.cI, 40, .inl (fun _ => v)))]) :
    ∀ (n k : Nat), k ≤ 40 → 40 - k < n → G X 4 0 0 5 [(3, .int 40), (2, .int (nI k)), (0, .ref t), (1, .int v)] [] [(t, .inl (X.E.cI, 40, .inl (fun j => if j < k then v else F j)))] := by
  intro n
  induction n with
  | zero => intro k _ h; omega
  | succ n ih =>
    intro k hk hn
    refine g_iloadn hX 1 rfl rfl dJ7_fill_53178_5 ?_
    refine g_iloadn hX 0 rfl rfl dJ7_fill_53178_6 ?_
    refine g_icmp_ge hX 20 (by decide) dJ7_fill_53178_7 (fun c1 => ?_) (fun c1 => ?_)
    · have e : k = 40 := by
        have : ¬ k < 40 := fun q => nI_ge q (by decide) c1
        omega
      subst e
      refine g_arrX 0 (g := fun _ => v) rfl (fun j hj => if_pos hj) [(t, .inl (X.E.cI, 40, .inl (fun _ => v)))] rfl ?_
      exact g_vret hX hq (by decide) (by decide) hp dJ7_fill_53178_20
    · have hlt : k < 40 := by
        rcases Nat.lt_or_ge k 40 with q | q
        · exact q
        · exact absurd (nI_le (a := 40) (b := k) q (by omega)) c1
      refine g_aloadn hX 2 rfl rfl dJ7_fill_53178_10 ?_
      refine g_iloadn hX 1 rfl rfl dJ7_fill_53178_11 ?_
      refine g_iloadn hX 3 rfl rfl dJ7_fill_53178_12 ?_
      refine g_iast hX 0 (n := 40) (f := fun j => if j < k then v else F j) rfl (vp_in_nI hlt (by decide)) k (nI_clamp (by omega)) [(t, .inl (X.E.cI, 40, .inl (fun j => if j < k + 1 then v else F j)))] (by rw [fill_step]; rfl) dJ7_fill_53178_13 ?_
      refine g_iinc hX 1 (v := nI (k + 1)) [(2, .int (nI (k + 1))), (3, .int 40), (0, .ref t), (1, .int v)] rfl (by rw [← nI_1]; rfl) (by decide) rfl dJ7_fill_53178_14 ?_
      refine g_goto hX 5 (by decide) dJ7_fill_53178_17 ?_
      refine g_lv [1, 0, 2, 3] rfl ?_
      exact ih (k + 1) hlt (by omega)
theorem c_J7_fill_53178 {l : Launch} {E : En} {t : Nat} {v : Int32} {F : Nat → Int32} : CP l E yJ7_fill_53178 cJ7_fill_53178 4 none 0 0 0 [] [.ref t, .int v] [(t, .inl (E.cI, 40, .inl F))] (fun rv w => rv = none ∧ w = [(t, .inl (E.cI, 40, .inl (fun _ => v)))]) :=
  CP.of (lv := [(0, .ref t), (1, .int v)]) (by decide +kernel) (Nat.le_of_ble_eq_true rfl) rfl (fun X hl hE hro hX hq hn => by
    subst hl; subst hE
    refine g_iconst hX (v := 0) (by decide) dJ7_fill_53178_0 ?_
    refine g_istoren hX [(2, .int 0), (0, .ref t), (1, .int v)] rfl (by decide) rfl dJ7_fill_53178_1 ?_
    refine g_aloadn hX 1 rfl rfl dJ7_fill_53178_2 ?_
    refine g_alen hX 0 0 rfl rfl (v := 40) (by rfl) dJ7_fill_53178_3 ?_
    refine g_istoren hX [(3, .int 40), (2, .int 0), (0, .ref t), (1, .int v)] rfl (by decide) rfl dJ7_fill_53178_4 ?_
    refine g_eqW (ws2 := [(t, .inl (X.E.cI, 40, .inl (fun j => if j < 0 then v else F j)))]) (by simp) ?_
    exact t_J7_fill_5 hX hq ⟨rfl, rfl⟩ 41 0 (by omega) (by omega))
theorem kw_RX7_J7_fill_53178 : KwS RX7 22 yJ7_fill_53178 cJ7_fill_53178 4 none 2 := ⟨mem_wsS wd_4_148 wd_4_149 wd_1_22 wd_4_150, ⟨by decide +kernel, by decide +kernel, by decide +kernel⟩, by decide⟩
section HWR
variable {X : Cx} {cc : ByteArray} {nL ce sl pc : Nat} {lv : List (Nat × Value)} {st : List Value} {ad : Nat → Nat} {S : MS} {dX mcX msX : Nat} {retX : Option FieldType} {PostX : Option Value → va_W → Prop}
theorem hg_numbers (hX : Ok X cc nL RX7) (hdg : decode cc pc = .ok (.getfield 9, 3)) (kk : G X nL ce sl (pc + 3) lv (.ref (ad 1) :: st) (hW X.E ad S)) : G X nL ce sl pc lv (.ref (ad 0) :: st) (hW X.E ad S) := g_get (C := RX7) (T := TX7) (N := 3) hX inX7 0 rfl rfl 0 (by decide) wd_2_178 (fun _ h => h) rfl hdg kk
theorem hg_bits (hX : Ok X cc nL RX7) {v : Int32} (hv : S.2 0 = v) (hdg : decode cc pc = .ok (.getfield 15, 3)) (kk : G X nL ce sl (pc + 3) lv (.int v :: st) (hW X.E ad S)) : G X nL ce sl pc lv (.ref (ad 0) :: st) (hW X.E ad S) := by
  subst hv
  exact g_get (C := RX7) (T := TX7) (N := 3) hX inX7 0 rfl rfl 1 (by decide) wd_2_181 (fun _ h => h) rfl hdg kk
theorem hp_bits (hX : Ok X cc nL RX7) {v : Int32} (hdg : decode cc pc = .ok (.putfield 15, 3)) (kk : G X nL ce sl (pc + 3) lv st (hW X.E ad (sF S 0 v))) : G X nL ce sl pc lv (.int v :: .ref (ad 0) :: st) (hW X.E ad S) := g_put (C := RX7) (T := TX7) (N := 3) (ty := .int) hX inX7 tyX7 tyX7_ok nmX7 0 rfl rfl 1 (by decide) wd_2_181 (fun _ h => h) rfl (by decide +kernel) rfl rfl (Nat.le_of_ble_eq_true rfl) (hW X.E ad (sF S 0 v)) rfl hdg kk
theorem hg_length (hX : Ok X cc nL RX7) {v : Int32} (hv : S.2 1 = v) (hdg : decode cc pc = .ok (.getfield 19, 3)) (kk : G X nL ce sl (pc + 3) lv (.int v :: st) (hW X.E ad S)) : G X nL ce sl pc lv (.ref (ad 0) :: st) (hW X.E ad S) := by
  subst hv
  exact g_get (C := RX7) (T := TX7) (N := 3) hX inX7 0 rfl rfl 2 (by decide) wd_2_183 (fun _ h => h) rfl hdg kk
theorem hp_length (hX : Ok X cc nL RX7) {v : Int32} (hdg : decode cc pc = .ok (.putfield 19, 3)) (kk : G X nL ce sl (pc + 3) lv st (hW X.E ad (sF S 1 v))) : G X nL ce sl pc lv (.int v :: .ref (ad 0) :: st) (hW X.E ad S) := g_put (C := RX7) (T := TX7) (N := 3) (ty := .int) hX inX7 tyX7 tyX7_ok nmX7 0 rfl rfl 2 (by decide) wd_2_183 (fun _ h => h) rfl (by decide +kernel) rfl rfl (Nat.le_of_ble_eq_true rfl) (hW X.E ad (sF S 1 v)) rfl hdg kk
end HWR
def f_X7_isMissing (S : MS) : Option (Int32 × MS) :=
  if ((S.2 0) = 0 : Prop) then
    some (1, S)
  else
    some (0, S)
set_option maxRecDepth 100000 in
set_option maxHeartbeats 4000000 in
theorem t_X7_isMissing_0 {X : Cx} {ad : Nat → Nat} {PostX : Option Value → va_W → Prop} (hX : Ok X cX7_isMissing 1 RX7) (hq : Rq X 0 0 0 (some .boolean) PostX) {u : (Int32 × MS)} (hp : PostX (some (.int u.1)) (hW X.E ad u.2)) (S : MS) (hf : f_X7_isMissing S = some u) : G X 1 0 0 0 [(0, .ref (ad 0))] [] (hW X.E ad S) := by
  unfold f_X7_isMissing at hf
  refine g_aloadn hX 0 rfl rfl dX7_isMissing_0 ?_
  refine hg_bits hX (v := S.2 0) rfl dX7_isMissing_1 ?_
  refine g_if_ne hX 11 (by decide) dX7_isMissing_4 (fun c1 => ?_) (fun c1 => ?_)
  · have hf := ite_f c1 hf
    refine g_iconst hX (v := 0) (by decide) dX7_isMissing_11 ?_
    obtain rfl := oi hf
    exact g_zret hX hq (by decide) (by decide) (by rfl) hp dX7_isMissing_12
  · have hf := ite_t c1 hf
    refine g_iconst hX (v := 1) (by decide) dX7_isMissing_7 ?_
    refine g_goto hX 12 (by decide) dX7_isMissing_8 ?_
    obtain rfl := oi hf
    exact g_zret hX hq (by decide) (by decide) (by rfl) hp dX7_isMissing_12
theorem c_X7_isMissing {l : Launch} {E : En} {ad : Nat → Nat} {r : Int32} {S S2 : MS} (hf : f_X7_isMissing S = some (r, S2)) : CP l E yX7_isMissing cX7_isMissing 1 (some .boolean) 0 0 0 [] [.ref (ad 0)] (hW E ad S) (fun rv w => rv = some (.int r) ∧ w = hW E ad S2) :=
  CP.of (lv := [(0, .ref (ad 0))]) (by decide +kernel) (Nat.le_of_ble_eq_true rfl) rfl (fun X hl hE hro hX hq hn => by subst hl; subst hE; exact t_X7_isMissing_0 hX hq ⟨rfl, rfl⟩ S hf)
def f_X7_renew (a1 : Int32) (a2 : Int32) (S : MS) : Option (Int32 × MS) :=
  cs (f_X11_held a2 0 40) fun r1 =>
  some (0, (sF (sF (sFill S 0) 0 a1) 1 r1))
set_option maxRecDepth 100000 in
set_option maxHeartbeats 4000000 in
theorem t_X7_renew_0 {X : Cx} {ad : Nat → Nat} {PostX : Option Value → va_W → Prop} (hX : Ok X cX7_renew 3 RX7) (hq : Rq X 2 0 0 none PostX) {u : (Int32 × MS)} (hp : PostX none (hW X.E ad u.2)) (a1 : Int32) (a2 : Int32) (S : MS) (hf : f_X7_renew a1 a2 S = some u) : G X 3 0 0 0 [(0, .ref (ad 0)), (1, .int a1), (2, .int a2)] [] (hW X.E ad S) := by
  unfold f_X7_renew at hf
  refine g_aloadn hX 0 rfl rfl dX7_renew_0 ?_
  refine hg_numbers hX dX7_renew_1 ?_
  refine g_iconst hX (v := 0) (by decide) dX7_renew_4 ?_
  refine g_callS (pre := [(ad 0, .inr (7, [.ref (ad 1), .int (S.2 0), .int (S.2 1)]))]) (mid := [(ad 1, .inl (X.E.cI, 40, .inl (S.1 1)))]) (post := []) [.ref (ad 1), .int 0] hX hq kw_RX7_J7_fill_53178 c_J7_fill_53178 (fun _ h => absurd h List.not_mem_nil) (by decide) (by decide) (by decide) rfl rfl (Nat.le_of_ble_eq_true rfl) dX7_renew_5 (fun rv ws2 hp2 => ?_)
  obtain ⟨rfl, rfl⟩ := hp2
  refine g_eqW (ws2 := (hW X.E ad (sFill S 0))) rfl ?_
  refine g_aloadn hX 0 rfl rfl dX7_renew_8 ?_
  refine g_iloadn hX 1 rfl rfl dX7_renew_9 ?_
  refine hp_bits hX dX7_renew_10 ?_
  refine g_aloadn hX 0 rfl rfl dX7_renew_13 ?_
  refine g_iloadn hX 2 rfl rfl dX7_renew_14 ?_
  refine g_iconst hX (v := 0) (by decide) dX7_renew_15 ?_
  refine g_bipush hX (v := 40) (by decide) dX7_renew_16 ?_
  obtain ⟨r1, h2, hf⟩ := cs_open hf
  refine k_RX7_X11_held hX hq h2 (by decide) (by decide) (by decide) (Nat.le_of_ble_eq_true rfl) dX7_renew_18 ?_
  refine hp_length hX dX7_renew_21 ?_
  obtain rfl := oi hf
  exact g_vret hX hq (by decide) (by decide) hp dX7_renew_24
theorem c_X7_renew {l : Launch} {E : En} {ad : Nat → Nat} {a1 : Int32} {a2 : Int32} {r : Int32} {S S2 : MS} (hf : f_X7_renew a1 a2 S = some (r, S2)) : CP l E yX7_renew cX7_renew 3 none 2 0 0 [] [.ref (ad 0), .int a1, .int a2] (hW E ad S) (fun rv w => rv = none ∧ w = hW E ad S2) :=
  CP.of (lv := [(0, .ref (ad 0)), (1, .int a1), (2, .int a2)]) (by decide +kernel) (Nat.le_of_ble_eq_true rfl) rfl (fun X hl hE hro hX hq hn => by subst hl; subst hE; exact t_X7_renew_0 hX hq ⟨rfl, rfl⟩ a1 a2 S hf)
def f_X7_cut (a1 : Int32) (S : MS) : Option (Int32 × MS) :=
  if ((S.2 0) = 8 : Prop) then
    some ((ji2b a1), S)
  else
    if ((S.2 0) = 16 : Prop) then
      some ((ji2s a1), S)
    else
      some (a1, S)
set_option maxRecDepth 100000 in
set_option maxHeartbeats 4000000 in
theorem t_X7_cut_0 {X : Cx} {ad : Nat → Nat} {PostX : Option Value → va_W → Prop} (hX : Ok X cX7_cut 2 RX7) (hq : Rq X 0 0 0 (some .int) PostX) {u : (Int32 × MS)} (hp : PostX (some (.int u.1)) (hW X.E ad u.2)) (a1 : Int32) (S : MS) (hf : f_X7_cut a1 S = some u) : G X 2 0 0 0 [(0, .ref (ad 0)), (1, .int a1)] [] (hW X.E ad S) := by
  unfold f_X7_cut at hf
  refine g_aloadn hX 0 rfl rfl dX7_cut_0 ?_
  refine hg_bits hX (v := S.2 0) rfl dX7_cut_1 ?_
  refine g_bipush hX (v := 8) (by decide) dX7_cut_4 ?_
  refine g_icmp_ne hX 12 (by decide) dX7_cut_6 (fun c1 => ?_) (fun c1 => ?_)
  · have hf := ite_f c1 hf
    refine g_aloadn hX 0 rfl rfl dX7_cut_12 ?_
    refine hg_bits hX (v := S.2 0) rfl dX7_cut_13 ?_
    refine g_bipush hX (v := 16) (by decide) dX7_cut_16 ?_
    refine g_icmp_ne hX 26 (by decide) dX7_cut_18 (fun c2 => ?_) (fun c2 => ?_)
    · have hf := ite_f c2 hf
      refine g_iloadn hX 1 rfl rfl dX7_cut_26 ?_
      obtain rfl := oi hf
      exact g_iret hX hq (by decide) (by decide) hp dX7_cut_27
    · have hf := ite_t c2 hf
      refine g_iloadn hX 1 rfl rfl dX7_cut_21 ?_
      refine g_ji2s hX dX7_cut_22 ?_
      refine g_goto hX 27 (by decide) dX7_cut_23 ?_
      obtain rfl := oi hf
      exact g_iret hX hq (by decide) (by decide) hp dX7_cut_27
  · have hf := ite_t c1 hf
    refine g_iloadn hX 1 rfl rfl dX7_cut_9 ?_
    refine g_ji2b hX dX7_cut_10 ?_
    obtain rfl := oi hf
    exact g_iret hX hq (by decide) (by decide) hp dX7_cut_11
theorem c_X7_cut {l : Launch} {E : En} {ad : Nat → Nat} {a1 : Int32} {r : Int32} {S S2 : MS} (hf : f_X7_cut a1 S = some (r, S2)) : CP l E yX7_cut cX7_cut 2 (some .int) 0 0 0 [] [.ref (ad 0), .int a1] (hW E ad S) (fun rv w => rv = some (.int r) ∧ w = hW E ad S2) :=
  CP.of (lv := [(0, .ref (ad 0)), (1, .int a1)]) (by decide +kernel) (Nat.le_of_ble_eq_true rfl) rfl (fun X hl hE hro hX hq hn => by subst hl; subst hE; exact t_X7_cut_0 hX hq ⟨rfl, rfl⟩ a1 S hf)
def f_X7_holds_30 (S : MS) : Option (Int32 × MS) :=
  some (0, S)
def f_X7_holds (a1 : Int32) (a2 : Int32) (S : MS) : Option (Int32 × MS) :=
  if (a1 < 0 : Prop) then
    f_X7_holds_30 S
  else
    if (a2 < 0 : Prop) then
      f_X7_holds_30 S
    else
      if ((S.2 1) < a2 : Prop) then
        f_X7_holds_30 S
      else
        if (((S.2 1) - a2) < a1 : Prop) then
          f_X7_holds_30 S
        else
          some (1, S)
set_option maxRecDepth 100000 in
set_option maxHeartbeats 4000000 in
theorem t_X7_holds_30 {X : Cx} {ad : Nat → Nat} {PostX : Option Value → va_W → Prop} (hX : Ok X cX7_holds 3 RX7) (hq : Rq X 0 0 0 (some .boolean) PostX) {u : (Int32 × MS)} (hp : PostX (some (.int u.1)) (hW X.E ad u.2)) (S : MS) (hf : f_X7_holds_30 S = some u) : G X 3 0 0 30 [(0, .ref (ad 0))] [] (hW X.E ad S) := by
  unfold f_X7_holds_30 at hf
  refine g_iconst hX (v := 0) (by decide) dX7_holds_30 ?_
  obtain rfl := oi hf
  exact g_zret hX hq (by decide) (by decide) (by rfl) hp dX7_holds_31
set_option maxRecDepth 100000 in
set_option maxHeartbeats 4000000 in
theorem t_X7_holds_0 {X : Cx} {ad : Nat → Nat} {PostX : Option Value → va_W → Prop} (hX : Ok X cX7_holds 3 RX7) (hq : Rq X 0 0 0 (some .boolean) PostX) {u : (Int32 × MS)} (hp : PostX (some (.int u.1)) (hW X.E ad u.2)) (a1 : Int32) (a2 : Int32) (S : MS) (hf : f_X7_holds a1 a2 S = some u) : G X 3 0 0 0 [(0, .ref (ad 0)), (1, .int a1), (2, .int a2)] [] (hW X.E ad S) := by
  unfold f_X7_holds at hf
  refine g_iloadn hX 1 rfl rfl dX7_holds_0 ?_
  refine g_if_lt hX 30 (by decide) dX7_holds_1 (fun c1 => ?_) (fun c1 => ?_)
  · have hf := ite_t c1 hf
    refine g_lv [0] rfl ?_
    exact t_X7_holds_30 hX hq hp _ hf
  · have hf := ite_f c1 hf
    refine g_iloadn hX 2 rfl rfl dX7_holds_4 ?_
    refine g_if_lt hX 30 (by decide) dX7_holds_5 (fun c2 => ?_) (fun c2 => ?_)
    · have hf := ite_t c2 hf
      refine g_lv [0] rfl ?_
      exact t_X7_holds_30 hX hq hp _ hf
    · have hf := ite_f c2 hf
      refine g_iloadn hX 2 rfl rfl dX7_holds_8 ?_
      refine g_aloadn hX 0 rfl rfl dX7_holds_9 ?_
      refine hg_length hX (v := S.2 1) rfl dX7_holds_10 ?_
      refine g_icmp_gt hX 30 (by decide) dX7_holds_13 (fun c3 => ?_) (fun c3 => ?_)
      · have hf := ite_t c3 hf
        refine g_lv [0] rfl ?_
        exact t_X7_holds_30 hX hq hp _ hf
      · have hf := ite_f c3 hf
        refine g_iloadn hX 1 rfl rfl dX7_holds_16 ?_
        refine g_aloadn hX 0 rfl rfl dX7_holds_17 ?_
        refine hg_length hX (v := S.2 1) rfl dX7_holds_18 ?_
        refine g_iloadn hX 2 rfl rfl dX7_holds_21 ?_
        refine g_isub hX dX7_holds_22 ?_
        refine g_icmp_gt hX 30 (by decide) dX7_holds_23 (fun c4 => ?_) (fun c4 => ?_)
        · have hf := ite_t c4 hf
          refine g_lv [0] rfl ?_
          exact t_X7_holds_30 hX hq hp _ hf
        · have hf := ite_f c4 hf
          refine g_iconst hX (v := 1) (by decide) dX7_holds_26 ?_
          refine g_goto hX 31 (by decide) dX7_holds_27 ?_
          obtain rfl := oi hf
          exact g_zret hX hq (by decide) (by decide) (by rfl) hp dX7_holds_31
theorem c_X7_holds {l : Launch} {E : En} {ad : Nat → Nat} {a1 : Int32} {a2 : Int32} {r : Int32} {S S2 : MS} (hf : f_X7_holds a1 a2 S = some (r, S2)) : CP l E yX7_holds cX7_holds 3 (some .boolean) 0 0 0 [] [.ref (ad 0), .int a1, .int a2] (hW E ad S) (fun rv w => rv = some (.int r) ∧ w = hW E ad S2) :=
  CP.of (lv := [(0, .ref (ad 0)), (1, .int a1), (2, .int a2)]) (by decide +kernel) (Nat.le_of_ble_eq_true rfl) rfl (fun X hl hE hro hX hq hn => by subst hl; subst hE; exact t_X7_holds_0 hX hq ⟨rfl, rfl⟩ a1 a2 S hf)
