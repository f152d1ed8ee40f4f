/-! ===== texts read whole ===== -/
def heldI (v lo hi : Int32) : Int32 := if lo ≤ v then (if v ≤ hi then v else hi) else lo
theorem r_held (v lo hi : Int32) : f_X12_held v lo hi = some (heldI v lo hi) := by
  unfold f_X12_held heldI
  by_cases h1 : lo ≤ v
  · rw [if_pos h1, if_pos h1]
    by_cases h2 : v ≤ hi
    · rw [if_pos h2, if_pos h2]
    · rw [if_neg h2, if_neg h2]
  · rw [if_neg h1, if_neg h1]
theorem heldI_j {v lo hi : Int32} (h : lo ≤ hi) : jmax lo (jmin hi v) = heldI v lo hi := by
  rw [Int32.le_iff_toInt_le] at h
  unfold jmax jmin heldI
  simp only [Int32.le_iff_toInt_le, Int32.lt_iff_toInt_lt]
  by_cases a : v.toInt < hi.toInt
  · rw [if_pos a]
    by_cases b : lo.toInt < v.toInt
    · rw [if_pos b, if_pos (by omega), if_pos (by omega)]
    · rw [if_neg b]
      by_cases c : lo.toInt ≤ v.toInt
      · rw [if_pos c, if_pos (by omega)]; exact Int32.toInt_inj.mp (by omega)
      · rw [if_neg c]
  · rw [if_neg a]
    by_cases b : lo.toInt < hi.toInt
    · rw [if_pos b, if_pos (by omega)]
      by_cases c : v.toInt ≤ hi.toInt
      · rw [if_pos c]; exact Int32.toInt_inj.mp (by omega)
      · rw [if_neg c]
    · rw [if_neg b, if_pos (by omega)]
      by_cases c : v.toInt ≤ hi.toInt
      · rw [if_pos c]; exact Int32.toInt_inj.mp (by omega)
      · rw [if_neg c]; exact Int32.toInt_inj.mp (by omega)
theorem c_held {v lo hi : Int32} (h : lo ≤ hi) : f_X11_held v lo hi = some (heldI v lo hi) := congrArg some (heldI_j h)
theorem jmin50 {en : Nat} (h : en ≤ 50) : jmin (nI en) 50 = nI en := by
  unfold jmin
  exact if_neg (nI_nlt (a := 50) (b := en) h (by decide))
/-- the reference where a walk begins -/
def wkS (M : MS) (u en : Nat) (a b c : Int32) : MS := (M.1, fun k => if k = 5 then nI u else if k = 7 then nI en else if k = 9 then a else if k = 10 then b else if k = 11 then c else M.2 k)
theorem wk_of (M : MS) (u en : Nat) (a b c : Int32) : sF (sF (sF (sF (sF (sF (sF (sF M 5 (nI u)) 6 0) 7 (nI en)) 8 0) 12 1) 9 a) 10 b) 11 c = RS (wkS M u en a b c) 0 0 true := by
  refine Prod.ext rfl (funext fun k => ?_)
  show (if k = 11 then c else if k = 10 then b else if k = 9 then a else if k = 12 then 1 else if k = 8 then 0 else if k = 7 then nI en else if k = 6 then 0 else if k = 5 then nI u else M.2 k) = (if k = 6 then nI 0 else if k = 8 then nI 0 else if k = 12 then 1 else if k = 5 then nI u else if k = 7 then nI en else if k = 9 then a else if k = 10 then b else if k = 11 then c else M.2 k)
  by_cases h11 : k = 11
  · subst h11; rfl
  · by_cases h10 : k = 10
    · subst h10; rfl
    · by_cases h9 : k = 9
      · subst h9; rfl
      · by_cases h12 : k = 12
        · subst h12; rfl
        · by_cases h8 : k = 8
          · subst h8; rfl
          · by_cases h7 : k = 7
            · subst h7; rfl
            · by_cases h6 : k = 6
              · subst h6; rfl
              · by_cases h5 : k = 5
                · subst h5; rfl
                · simp only [if_neg h11, if_neg h10, if_neg h9, if_neg h12, if_neg h8, if_neg h7, if_neg h6, if_neg h5]
/-- the text at a use's place in the reference -/
def TXr (M : MS) (u en : Nat) (B : Nat → Nat) : Prop := M.1 1 (6 + u) = nI en ∧ ∀ k, k < en → M.1 1 (106 + 50 * u + k) = nI (B k) ∧ B k < 256
theorem law_sim {i u : Nat} {F : Nat → Int32} {B : Nat → Nat} {M : MS} {en : Nat} (hN : NMok i u) (hu : u < 2) (hen : en ≤ 50) (hM : TXr M u en B) (hF : ∀ k, k < en → F k = ji2b (nI (B k))) (S : MS) (a b c : Int32) : ∃ (p' : Nat) (acc : Bool) (v w : Int32), p' ≤ en ∧ (acc = true → p' = en) ∧ (S.2 4 = a → S.2 5 = b → S.2 6 = c → acc = true → v = w) ∧ f_X2_read i F (nI en) S = some (v, CS S en p' acc) ∧ f_X12_walks (nI u) a b c M = some (w, RS (wkS M u en a b c) 0 p' acc) := by
  have hT : TX u F B (wkS M u en a b c) en := ⟨hen, hu, rfl, rfl, fun k hk => ⟨(hM.2 k hk).1, (hM.2 k hk).2, hF k hk⟩⟩
  obtain ⟨p', ok, v, w, g1, g2, g3, g4, g5, g6⟩ := sim_text (S := S) hN hT 0 (Nat.zero_le en)
  have e6 : (6 : Int32) + nI u = nI (6 + u) := by rw [show (6 : Int32) = nI 6 by decide +kernel, nI_add]
  have hr : ∀ x : Option (Int32 × MS), (cb (f_X2_either i F (fr_X2_part i F 8) 0 (CS S en 0 true)) fun r4 S2 => if ((S2.2 1) ≤ (S2.2 2) : Prop) then some (r4, S2) else cb (f_X2_fail i F S2) fun r8 S6 => some (r8, S6)) = x → f_X2_read i F (nI en) S = x := fun x h => by
    refine bIE ?_
    rw [jmin50 hen, cP_of]
    exact h
  have hw : ∀ x : Option (Int32 × MS), (cb (f_X12_whole (fr_X12_factor 8) (RS (wkS M u en a b c) 0 0 true)) fun r5 S3 => if ((S3.2 12) = 0 : Prop) then f_X12_walks_78 r5 S3 else if ((S3.2 6) = (S3.2 7) : Prop) then f_X12_walks_79 r5 1 S3 else f_X12_walks_78 r5 S3) = x → f_X12_walks (nI u) a b c M = x := fun x h => by
    refine gixE (6 + u) e6 (by omega) (by decide) (bIE ?_)
    rw [hM.1, wk_of]
    exact h
  have h78 : ∀ (p : Nat) (ok : Bool) (r : Int32), f_X12_walks_78 r (RS (wkS M u en a b c) 0 p ok) = some (r, RS (wkS M u en a b c) 0 p false) := fun p ok r => gzE (Or.inl rfl) (congrArg (fun z => some (r, z)) (rP_12 _ _ _ _ _))
  have h79 : ∀ (p : Nat) (ok : Bool) (r : Int32), f_X12_walks_79 r 1 (RS (wkS M u en a b c) 0 p ok) = some (r, RS (wkS M u en a b c) 0 p true) := fun p ok r => gzE (Or.inr rfl) (congrArg (fun z => some (r, z)) (rP_12 _ _ _ _ _))
  cases ok
  · refine ⟨p', false, v, w, g1, fun h => (nomatch h), fun _ _ _ h => (nomatch h), hr _ ?_, hw _ ?_⟩
    · exact cbE g5 (iteT (CS_le (fun h => (nomatch h)) (by omega) (by omega)) rfl)
    · exact cbE g6 (iteT rfl (h78 p' false w))
  · by_cases hpe : p' = en
    · refine ⟨p', true, v, w, g1, fun _ => hpe, fun h1 h2 h3 _ => g4 ⟨h1, h2, h3⟩, hr _ ?_, hw _ ?_⟩
      · exact cbE g5 (iteT (CS_le (fun _ => by omega) (by omega) (by omega)) rfl)
      · exact cbE g6 (iteF ne10 (iteT (show nI p' = nI en by rw [hpe]) (h79 p' true w)))
    · have hlt : p' < en := by omega
      refine ⟨p', false, 0, w, g1, fun h => (nomatch h), fun _ _ _ h => (nomatch h), hr _ ?_, hw _ ?_⟩
      · exact cbE g5 (iteF (CS_nle hlt (by omega)) (cbE (c_fail i F S en p' true) rfl))
      · exact cbE g6 (iteF ne10 (iteF (show ¬ nI p' = nI en from fun h => hpe ((nI_eq (by omega) (by omega)).mp h)) (h78 p' true w)))
/-- a text that stands: some walk has taken it -/
def GoodT (u en : Nat) (B : Nat → Nat) : Prop := ∃ (M : MS) (a b c w : Int32), TXr M u en B ∧ f_X12_walks (nI u) a b c M = some (w, RS (wkS M u en a b c) 0 en true)
theorem CS_inj {S : MS} {en p p2 : Nat} {ok ok2 : Bool} (hp : p < 100) (hp2 : p2 < 100) (h : CS S en p ok = CS S en p2 ok2) : p = p2 ∧ ok = ok2 := by
  have h2 : (CS S en p ok).2 2 = (CS S en p2 ok2).2 2 := by rw [h]
  have h3 : (CS S en p ok).2 3 = (CS S en p2 ok2).2 3 := by rw [h]
  refine ⟨(nI_eq (by omega) (by omega)).mp h2, ?_⟩
  cases ok <;> cases ok2
  · rfl
  · exact absurd (show (1 : Int32) = 0 from h3) (by decide)
  · exact absurd (show (0 : Int32) = 1 from h3) (by decide)
  · rfl
theorem RS_inj {M : MS} {o p p2 : Nat} {ok ok2 : Bool} (hp : p < 100) (hp2 : p2 < 100) (h : RS M o p ok = RS M o p2 ok2) : p = p2 ∧ ok = ok2 := by
  have h2 : (RS M o p ok).2 6 = (RS M o p2 ok2).2 6 := by rw [h]
  have h3 : (RS M o p ok).2 12 = (RS M o p2 ok2).2 12 := by rw [h]
  refine ⟨(nI_eq (by omega) (by omega)).mp h2, ?_⟩
  cases ok <;> cases ok2
  · rfl
  · exact absurd (show (0 : Int32) = 1 from h3) (by decide)
  · exact absurd (show (1 : Int32) = 0 from h3) (by decide)
  · rfl
theorem good_run {i u : Nat} {B : Nat → Nat} {M : MS} {en : Nat} {F : Nat → Int32} (hN : NMok i u) (hu : u < 2) (hen : en ≤ 50) (hG : GoodT u en B) (hM : TXr M u en B) (hF : ∀ k, k < en → F k = ji2b (nI (B k))) (S : MS) (a b c : Int32) : ∃ v w : Int32, (S.2 4 = a → S.2 5 = b → S.2 6 = c → v = w) ∧ f_X2_read i F (nI en) S = some (v, CS S en en true) ∧ f_X12_walks (nI u) a b c M = some (w, RS (wkS M u en a b c) 0 en true) := by
  obtain ⟨M0, a0, b0, c0, w0, hM0, hG0⟩ := hG
  obtain ⟨p1, acc1, v1, w1, g1, g2, g3, g4, g5⟩ := law_sim hN hu hen hM0 hF S a0 b0 c0
  obtain ⟨p2, acc2, v2, w2, k1, k2, k3, k4, k5⟩ := law_sim hN hu hen hM hF S a b c
  have e1 := g5.symm.trans hG0
  have e2 : RS (wkS M0 u en a0 b0 c0) 0 p1 acc1 = RS (wkS M0 u en a0 b0 c0) 0 en true := congrArg Prod.snd (Option.some.inj e1)
  obtain ⟨rfl, rfl⟩ := RS_inj (by omega) (by omega) e2
  have e3 : CS S p1 p2 acc2 = CS S p1 p1 true := congrArg Prod.snd (Option.some.inj (k4.symm.trans g4))
  obtain ⟨rfl, rfl⟩ := CS_inj (by omega) (by omega) e3
  exact ⟨v2, w2, fun h1 h2 h3 => k3 h1 h2 h3 rfl, k4, k5⟩
theorem NM_0 : NMok 0 0 := nm_0
theorem NM_1 : NMok 2 1 := nm_1
