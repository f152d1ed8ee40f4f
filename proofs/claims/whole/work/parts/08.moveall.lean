theorem vp_congr {cA : ClassId} {n : Nat} {f g : Nat → Int32} (h : ∀ j, j < n → f j = g j) : vp_cell cA (n, .inl f) = vp_cell cA (n, .inl g) := by
  rw [vp_cell_i, vp_cell_i]
  unfold arrV
  congr 1
  apply Array.ext
  · simp
  · intro i h1 h2
    simp at h1
    simp [h i h1]
theorem g_arrX {X : Cx} {nL ce sl pc : Nat} {lv : List (Nat × Value)} {st : List Value} {ws : va_W} (q0 : Nat) {a n : Nat} {cA : ClassId} {f : Nat → Int32} (ha : ws[q0]? = some (a, .inl (cA, n, .inl f))) {g : Nat → Int32} (hfg : ∀ j, j < n → f j = g j) (ws' : va_W) (hws : ws.set q0 (a, .inl (cA, n, .inl g)) = ws') (kk : G X nL ce sl pc lv st ws') : G X nL ce sl pc lv st ws := by
  intro H locs ls hP hD hS h
  refine kk H locs ls ?_ (hws ▸ hD.set ha) hS h
  rw [← hws]
  refine hP.set hD ha ?_ (fun q _ => rfl)
  have h1 : H[a]? = some (vp_cell cA (n, .inl f)) := hP q0 _ ha
  show H[a]? = some (vp_cell cA (n, .inl g))
  rw [h1, vp_congr hfg]
theorem mwp {E : En} {ad : Nat → Nat} {S : MS} {j : Nat} (h : 1 ≤ j ∧ j ≤ 4) : (mW E ad S)[j]? = some (ad j, .inl (E.cI, 206, .inl (S.1 j))) := by
  rcases (show j = 1 ∨ j = 2 ∨ j = 3 ∨ j = 4 by omega) with rfl | rfl | rfl | rfl <;> rfl
theorem mws {E : En} {ad : Nat → Nat} {S : MS} {j : Nat} {g : Nat → Int32} (h : 1 ≤ j ∧ j ≤ 4) : (mW E ad S).set j (ad j, .inl (E.cI, 206, .inl g)) = mW E ad (fun c => if c = j then g else S.1 c, S.2) := by
  rcases (show j = 1 ∨ j = 2 ∨ j = 3 ∨ j = 4 by omega) with rfl | rfl | rfl | rfl <;> rfl
def mvS (S : MS) (a b k : Nat) : MS := (fun c => if c = b then (fun j => if j < k then S.1 a j else S.1 b j) else S.1 c, S.2)
theorem mvS_0 (S : MS) (a b : Nat) : mvS S a b 0 = S := by
  refine Prod.ext (funext fun c => ?_) rfl
  show (if c = b then (fun j => if j < 0 then S.1 a j else S.1 b j) else S.1 c) = S.1 c
  by_cases h : c = b
  · subst h
    rw [if_pos rfl]
    funext j
    rw [if_neg (Nat.not_lt_zero j)]
  · rw [if_neg h]
theorem mvS_a {S : MS} {a b k : Nat} (h : a ≠ b) : (mvS S a b k).1 a = S.1 a := if_neg h
theorem mvS_b {S : MS} {a b k : Nat} : (mvS S a b k).1 b = (fun j => if j < k then S.1 a j else S.1 b j) := if_pos rfl
theorem mvS_succ {S : MS} {a b k : Nat} (h : a ≠ b) : ((fun c => if c = b then upd ((mvS S a b k).1 b) k ((mvS S a b k).1 a k) else (mvS S a b k).1 c, (mvS S a b k).2) : MS) = mvS S a b (k + 1) := by
  refine Prod.ext (funext fun c => ?_) rfl
  show (if c = b then upd ((mvS S a b k).1 b) k ((mvS S a b k).1 a k) else (mvS S a b k).1 c) = (mvS S a b (k + 1)).1 c
  by_cases hc : c = b
  · subst hc
    rw [if_pos rfl, mvS_b, mvS_b, mvS_a h]
    funext j
    unfold upd
    by_cases hj : j = k
    · subst hj
      rw [if_pos rfl, if_pos (Nat.lt_succ_self j)]
    · rw [if_neg hj]
      show (if j < k then S.1 a j else S.1 c j) = if j < k + 1 then S.1 a j else S.1 c j
      by_cases hl : j < k
      · rw [if_pos hl, if_pos (by omega)]
      · rw [if_neg hl, if_neg (by omega)]
  · rw [if_neg hc]
    show (if c = b then _ else S.1 c) = (if c = b then _ else S.1 c)
    rw [if_neg hc, if_neg hc]
set_option maxRecDepth 100000 in
theorem t_X12_moveAll_2 {X : Cx} {ad : Nat → Nat} {S : MS} {a b : Nat} {PostX : Option Value → va_W → Prop} (hX : Ok X cX12_moveAll 4 RX12) (hq : Rq X 0 0 0 none PostX) (hp : PostX none (mW X.E ad (sM S a b))) (ha : 1 ≤ a ∧ a ≤ 4) (hb : 1 ≤ b ∧ b ≤ 4) (hab : a ≠ b) :
    ∀ (n k : Nat), k ≤ 206 → 206 - k < n → G X 4 0 0 2 [(1, .ref (ad a)), (2, .ref (ad b)), (3, .int (nI k))] [] (mW X.E ad (mvS S a b k)) := by
  intro n
  induction n with
  | zero => intro k _ h; omega
  | succ n ih =>
    intro k hk hn
    refine g_iloadn hX 2 rfl rfl dX12_moveAll_2 ?_
    refine g_sipush hX (v := 206) (by decide) dX12_moveAll_3 ?_
    refine g_icmp_ge hX 21 (by decide) dX12_moveAll_6 (fun c1 => ?_) (fun c1 => ?_)
    · have e : k = 206 := by
        have : ¬ k < 206 := fun q => nI_ge q (by decide) c1
        omega
      subst e
      refine g_arrX b (mwp hb) (g := S.1 a) (fun j hj => by rw [mvS_b]; exact if_pos hj) (mW X.E ad (sM S a b)) ?_ ?_
      · rw [mws hb]
        refine congrArg (mW X.E ad) (Prod.ext (funext fun c => ?_) rfl)
        show (if c = b then S.1 a else (mvS S a b 206).1 c) = (if c = b then S.1 a else S.1 c)
        by_cases hc : c = b
        · rw [if_pos hc, if_pos hc]
        · rw [if_neg hc, if_neg hc]
          exact if_neg hc
      · exact g_vret hX hq (by decide) (by decide) hp dX12_moveAll_21
    · have hlt : k < 206 := by
        rcases Nat.lt_or_ge k 206 with q | q
        · exact q
        · exact absurd (nI_le (a := 206) (b := k) q (by omega)) c1
      refine g_aloadn hX 1 rfl rfl dX12_moveAll_9 ?_
      refine g_iloadn hX 2 rfl rfl dX12_moveAll_10 ?_
      refine g_aloadn hX 0 rfl rfl dX12_moveAll_11 ?_
      refine g_iloadn hX 2 rfl rfl dX12_moveAll_12 ?_
      refine g_iald hX a (mwp ha) (vp_in_nI hlt (by decide)) k (nI_clamp (by omega)) dX12_moveAll_13 ?_
      refine g_iast hX b (mwp hb) (vp_in_nI hlt (by decide)) k (nI_clamp (by omega)) (mW X.E ad (mvS S a b (k + 1))) (by rw [mws hb, mvS_succ hab]) dX12_moveAll_14 ?_
      refine g_iinc hX 2 (v := nI (k + 1)) [(3, .int (nI (k + 1))), (1, .ref (ad a)), (2, .ref (ad b))] rfl (by rw [← nI_1]; rfl) (by decide) rfl dX12_moveAll_15 ?_
      refine g_goto hX 2 (by decide) dX12_moveAll_18 ?_
      refine g_lv [1, 2, 0] rfl ?_
      exact ih (k + 1) (by omega) (by omega)
theorem c_X12_moveAll {l : Launch} {E : En} {ad : Nat → Nat} {S : MS} {a b : Nat} (ha : 1 ≤ a ∧ a ≤ 4) (hb : 1 ≤ b ∧ b ≤ 4) (hab : a ≠ b) : CP l E yX12_moveAll cX12_moveAll 4 none 0 0 0 [] [.ref (ad 0), .ref (ad a), .ref (ad b)] (mW E ad S) (fun rv w => rv = none ∧ w = mW E ad (sM S a b)) :=
  CP.of (lv := [(0, .ref (ad 0)), (1, .ref (ad a)), (2, .ref (ad b))]) (by decide +kernel) (Nat.le_of_ble_eq_true rfl) rfl (fun X hl hE hro hX hq hn => by
    subst hl; subst hE
    refine g_iconst hX (v := 0) (by decide) dX12_moveAll_0 ?_
    refine g_istoren hX [(3, .int 0), (0, .ref (ad 0)), (1, .ref (ad a)), (2, .ref (ad b))] rfl (by decide) rfl dX12_moveAll_1 ?_
    refine g_lv [2, 3, 0] rfl ?_
    refine g_eqW (congrArg (mW X.E ad) (mvS_0 S a b)) ?_
    exact t_X12_moveAll_2 hX hq ⟨rfl, rfl⟩ ha hb hab 207 0 (by omega) (by omega))
