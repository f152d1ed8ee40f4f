/-! ===== names, parts, texts ===== -/
/-- the place of a byte among a use's names -/
def nmK (u b : Nat) : Int32 := if b = (if u = 0 then 104 else 115) then 0 else if b = (if u = 0 then 99 else 107) then 1 else if b = (if u = 0 then 110 else 100) then 2 else -1
theorem nm_0 : ∀ b, b < 256 → f_J0_indexOf_0f7a4 0 (ji2c (ji2b (nI b) &&& 255)) = some (nmK 0 b) := by decide +kernel
theorem nm_1 : ∀ b, b < 256 → f_J0_indexOf_0f7a4 2 (ji2c (ji2b (nI b) &&& 255)) = some (nmK 1 b) := by decide +kernel
def NMok (i u : Nat) : Prop := ∀ b, b < 256 → f_J0_indexOf_0f7a4 i (ji2c (ji2b (nI b) &&& 255)) = some (nmK u b)
/-- the values of the names agree -/
def VV (S M : MS) : Prop := S.2 4 = M.2 9 ∧ S.2 5 = M.2 10 ∧ S.2 6 = M.2 11
/-- what a name is worth -/
def nmV (u b : Nat) (x y z : Int32) : Int32 := if b = (if u = 0 then 104 else 115) then x else if b = (if u = 0 then 99 else 107) then y else z
def isNm (u b : Nat) : Bool := decide (b = (if u = 0 then 104 else 115)) || decide (b = (if u = 0 then 99 else 107)) || decide (b = (if u = 0 then 110 else 100))
section PARTS
variable {i u : Nat} {F : Nat → Int32} {B : Nat → Nat} {S M : MS} {en o : Nat} {V : Prop} {fc : Int32 → MS → Option (Int32 × MS)} {fr : MS → Option (Int32 × MS)}
theorem c_name (hN : NMok i u) (hT : TX u F B M en) {p : Nat} (hp : p < en) : f_X2_name i F (F p) (CS S en p true) = if isNm u (B p) = true then some (nmV u (B p) (S.2 4) (S.2 5) (S.2 6), CS S en (p + 1) true) else some (0, CS S en p false) := by
  obtain ⟨_, hb, hF⟩ := hT.2.2.2.2 p hp
  have h := hN (B p) hb
  rw [← hF] at h
  unfold f_X2_name
  by_cases h1 : B p = (if u = 0 then 104 else 115)
  · have e1 : nmK u (B p) = 0 := if_pos h1
    have e2 : isNm u (B p) = true := by unfold isNm; rw [decide_eq_true h1]; rfl
    have e3 : nmV u (B p) (S.2 4) (S.2 5) (S.2 6) = S.2 4 := if_pos h1
    rw [e1] at h
    rw [e2, e3, if_pos rfl]
    refine csE h (iteT (by decide) (bIE (iteT rfl ?_)))
    rw [CS_p1, CS_o _ _ _ _ 4 (by decide)]
  · by_cases h2 : B p = (if u = 0 then 99 else 107)
    · have e1 : nmK u (B p) = 1 := (if_neg h1).trans (if_pos h2)
      have e2 : isNm u (B p) = true := by unfold isNm; rw [decide_eq_true h2, Bool.or_true]; rfl
      have e3 : nmV u (B p) (S.2 4) (S.2 5) (S.2 6) = S.2 5 := (if_neg h1).trans (if_pos h2)
      rw [e1] at h
      rw [e2, e3, if_pos rfl]
      refine csE h (iteT (by decide) (bIE (iteF (by decide) (iteT rfl ?_))))
      rw [CS_p1, CS_o _ _ _ _ 5 (by decide)]
    · by_cases h3 : B p = (if u = 0 then 110 else 100)
      · have e1 : nmK u (B p) = 2 := (if_neg h1).trans ((if_neg h2).trans (if_pos h3))
        have e2 : isNm u (B p) = true := by unfold isNm; rw [decide_eq_true h3, Bool.or_true]
        have e3 : nmV u (B p) (S.2 4) (S.2 5) (S.2 6) = S.2 6 := (if_neg h1).trans (if_neg h2)
        rw [e1] at h
        rw [e2, e3, if_pos rfl]
        refine csE h (iteT (by decide) (bIE (iteF (by decide) (iteF (by decide) ?_))))
        rw [CS_p1, CS_o _ _ _ _ 6 (by decide)]
      · have e1 : nmK u (B p) = -1 := (if_neg h1).trans ((if_neg h2).trans (if_neg h3))
        have e2 : isNm u (B p) = false := by unfold isNm; rw [decide_eq_false h1, decide_eq_false h2, decide_eq_false h3]; rfl
        rw [e1] at h
        rw [e2, if_neg (by decide)]
        exact csE h (iteF (by decide) (cbE (c_fail i F S en p true) rfl))
/-- the reference's names: c is a byte, or -1 at the end -/
theorem r_named (hu : u < 2) (h5 : M.2 5 = nI u) {p : Nat} {c : Int32} {q : Nat} (hc : (c = nI q ∧ q < 256) ∨ (c = -1 ∧ q = 0)) : f_X12_named c (RS M o p true) = if isNm u q = true then some (nmV u q (M.2 9) (M.2 10) (M.2 11), RS M o (p + 1) true) else some (0, RS M o p false) := by
  have e5 : (RS M o p true).2 5 = nI u := (RS_o M o p true 5 (by decide) (by decide) (by decide)).trans h5
  have e9 : (RS M o p true).2 9 = M.2 9 := RS_o M o p true 9 (by decide) (by decide) (by decide)
  have e10 : (RS M o p true).2 10 = M.2 10 := RS_o M o p true 10 (by decide) (by decide) (by decide)
  have e11 : (RS M o p true).2 11 = M.2 11 := RS_o M o p true 11 (by decide) (by decide) (by decide)
  have hq : ∀ x : Nat, 0 < x → x < 128 → (c = nI x ↔ q = x) := fun x h0 hx => by
    rcases hc with ⟨rfl, hq⟩ | ⟨rfl, rfl⟩
    · exact nI_eq (by omega) (by omega)
    · constructor
      · intro h
        have h2 := nI_pos' (n := x) (by omega)
        rw [← h] at h2
        exact absurd h2 (by decide)
      · intro h
        omega
  have f91 : ∀ x2 x3 : Int32, f_X12_named_91 x2 x3 (RS M o p true) = some (if x2 = 0 then (if x3 = 0 then M.2 11 else M.2 10) else M.2 9, RS M o (p + 1) true) := fun x2 x3 => by
    refine bIE ?_
    rw [RS_p1, e9, e10, e11]
    by_cases h2 : x2 = 0
    · by_cases h3 : x3 = 0
      · exact iteT h2 (iteT h3 (by rw [if_pos h2, if_pos h3]))
      · exact iteT h2 (iteF h3 (by rw [if_pos h2, if_neg h3]))
    · exact iteF h2 (by rw [if_neg h2])
  have f71 : ∀ x2 x3 y0 : Int32, f_X12_named_71 x2 x3 y0 (RS M o p true) = if x2 = 0 ∧ x3 = 0 ∧ y0 = 0 then some (0, RS M o p false) else some (if x2 = 0 then (if x3 = 0 then M.2 11 else M.2 10) else M.2 9, RS M o (p + 1) true) := fun x2 x3 y0 => by
    unfold f_X12_named_71
    by_cases h2 : x2 = 0
    · by_cases h3 : x3 = 0
      · by_cases h4 : y0 = 0
        · exact (iteT h2 (iteT h3 (iteT h4 (cbE (r_fails M o p true) rfl)))).trans (if_pos ⟨h2, h3, h4⟩).symm
        · exact (iteT h2 (iteT h3 (iteF h4 (f91 x2 x3)))).trans (if_neg (fun z => h4 z.2.2)).symm
      · exact (iteT h2 (iteF h3 (f91 x2 x3))).trans (if_neg (fun z => h3 z.2.1)).symm
    · exact (iteF h2 (f91 x2 x3)).trans (if_neg (fun z => h2 z.1)).symm
  have z1 : ¬ (1 : Int32) = 0 := ne10
  have hu2 : u = 0 ∨ u = 1 := by omega
  rcases hu2 with rfl | rfl
  · have g5 : (RS M o p true).2 5 = 0 := e5
    by_cases a1 : q = 104
    · subst a1
      have c1 := (hq 104 (by decide) (by decide)).mpr rfl
      have n2 : ¬ c = 99 := fun z => absurd ((hq 99 (by decide) (by decide)).mp z) (by decide)
      have n3 : ¬ c = 110 := fun z => absurd ((hq 110 (by decide) (by decide)).mp z) (by decide)
      refine (iteT g5 (iteT c1 (iteT g5 (iteF n2 (iteT g5 (iteF n3 (f71 1 0 0)))))) : f_X12_named c (RS M o p true) = _).trans ?_
      rw [if_neg (fun z => z1 z.1), if_neg z1]; rfl
    · have n1 : ¬ c = 104 := fun z => a1 ((hq 104 (by decide) (by decide)).mp z)
      by_cases a2 : q = 99
      · subst a2
        have c1 := (hq 99 (by decide) (by decide)).mpr rfl
        have n3 : ¬ c = 110 := fun z => absurd ((hq 110 (by decide) (by decide)).mp z) (by decide)
        refine (iteT g5 (iteF n1 (iteT g5 (iteT c1 (iteT g5 (iteF n3 (f71 0 1 0)))))) : f_X12_named c (RS M o p true) = _).trans ?_
        rw [if_neg (fun z => z1 z.2.1), if_pos rfl, if_neg z1]; rfl
      · have n2 : ¬ c = 99 := fun z => a2 ((hq 99 (by decide) (by decide)).mp z)
        by_cases a3 : q = 110
        · subst a3
          have c1 := (hq 110 (by decide) (by decide)).mpr rfl
          refine (iteT g5 (iteF n1 (iteT g5 (iteF n2 (iteT g5 (iteT c1 (f71 0 0 1)))))) : f_X12_named c (RS M o p true) = _).trans ?_
          rw [if_neg (fun z => z1 z.2.2), if_pos rfl, if_pos rfl]; rfl
        · have n3 : ¬ c = 110 := fun z => a3 ((hq 110 (by decide) (by decide)).mp z)
          refine (iteT g5 (iteF n1 (iteT g5 (iteF n2 (iteT g5 (iteF n3 (f71 0 0 0)))))) : f_X12_named c (RS M o p true) = _).trans ?_
          have hi : isNm 0 q = false := by
            show (decide (q = 104) || decide (q = 99) || decide (q = 110)) = false
            rw [decide_eq_false a1, decide_eq_false a2, decide_eq_false a3]; rfl
          rw [if_pos ⟨rfl, rfl, rfl⟩, hi]; rfl
  · have g5 : ¬ (RS M o p true).2 5 = 0 := by rw [e5]; decide
    by_cases a1 : q = 115
    · subst a1
      have c1 := (hq 115 (by decide) (by decide)).mpr rfl
      have n2 : ¬ c = 107 := fun z => absurd ((hq 107 (by decide) (by decide)).mp z) (by decide)
      have n3 : ¬ c = 100 := fun z => absurd ((hq 100 (by decide) (by decide)).mp z) (by decide)
      refine (iteF g5 (iteT c1 (iteF g5 (iteF n2 (iteF g5 (iteF n3 (f71 1 0 0)))))) : f_X12_named c (RS M o p true) = _).trans ?_
      rw [if_neg (fun z => z1 z.1), if_neg z1]; rfl
    · have n1 : ¬ c = 115 := fun z => a1 ((hq 115 (by decide) (by decide)).mp z)
      by_cases a2 : q = 107
      · subst a2
        have c1 := (hq 107 (by decide) (by decide)).mpr rfl
        have n3 : ¬ c = 100 := fun z => absurd ((hq 100 (by decide) (by decide)).mp z) (by decide)
        refine (iteF g5 (iteF n1 (iteF g5 (iteT c1 (iteF g5 (iteF n3 (f71 0 1 0)))))) : f_X12_named c (RS M o p true) = _).trans ?_
        rw [if_neg (fun z => z1 z.2.1), if_pos rfl, if_neg z1]; rfl
      · have n2 : ¬ c = 107 := fun z => a2 ((hq 107 (by decide) (by decide)).mp z)
        by_cases a3 : q = 100
        · subst a3
          have c1 := (hq 100 (by decide) (by decide)).mpr rfl
          refine (iteF g5 (iteF n1 (iteF g5 (iteF n2 (iteF g5 (iteT c1 (f71 0 0 1)))))) : f_X12_named c (RS M o p true) = _).trans ?_
          rw [if_neg (fun z => z1 z.2.2), if_pos rfl, if_pos rfl]; rfl
        · have n3 : ¬ c = 100 := fun z => a3 ((hq 100 (by decide) (by decide)).mp z)
          refine (iteF g5 (iteF n1 (iteF g5 (iteF n2 (iteF g5 (iteF n3 (f71 0 0 0)))))) : f_X12_named c (RS M o p true) = _).trans ?_
          have hi : isNm 1 q = false := by
            show (decide (q = 115) || decide (q = 107) || decide (q = 100)) = false
            rw [decide_eq_false a1, decide_eq_false a2, decide_eq_false a3]; rfl
          rw [if_pos ⟨rfl, rfl, rfl⟩, hi]; rfl
theorem sim_part (hN : NMok i u) (hT : TX u F B M en) (ho : o ≤ 5) (hS : o < 5 → Sim (VV S M) S M en (o + 1) (fc (nI (o + 1))) fr) : Sim (VV S M) S M en o (f_X2_part i F fc (nI o)) (f_X12_factor fr) := by
  have h50 := hT.1
  intro p hp
  by_cases hpe : p < en
  · obtain ⟨hM, hb, hF⟩ := hT.2.2.2.2 p hpe
    have cd := c_isDg (B p) hb
    have rd := r_isDg (B p) hb
    rw [← hF] at cd
    cases hd : isDg (B p)
    · rw [hd] at cd rd
      by_cases h33 : B p = 33 ∨ B p = 40
      · have hF2 : F p = nI (B p) := by
          rcases h33 with q | q <;> rw [q] at hF <;> rw [q] <;> exact hF.trans (lo_eq _ (by decide))
        have cgo : ∀ v T, f_X2_part_56 i F fc (nI o) (nI (B p)) (CS S en p true) = some (v, T) → f_X2_part i F fc (nI o) (CS S en p true) = some (v, T) := fun v T h => by
          refine iteT (CS_lt hpe (by omega)) (gixE p rfl (show p < 50 by omega) (by decide) (bIE (csE cd (iteT rfl ?_))))
          rw [hF2]
          rcases h33 with q | q
          · exact iteT (by rw [q]; rfl) h
          · exact iteF (by rw [q]; decide) (iteT (by rw [q]; rfl) h)
        have rgo : ∀ v T, f_X12_factor_39 fr (nI (B p)) (RS M o p true) = some (v, T) → f_X12_factor fr (RS M o p true) = some (v, T) := fun v T h => by
          refine cbE (r_at hT true hpe) (csE rd (iteT rfl ?_))
          rcases h33 with q | q
          · exact iteT (by rw [q]; rfl) h
          · exact iteF (by rw [q]; decide) (iteT (by rw [q]; rfl) h)
        by_cases h5 : o = 5
        · subst h5
          refine ⟨p, false, 0, 0, hp, Nat.le_refl _, fun h => (nomatch h), fun _ => rfl, cgo _ _ ?_, rgo _ _ ?_⟩
          · exact iteF (by decide) (cbE (c_fail i F S en p true) rfl)
          · exact iteT rfl (cbE (r_fails M 5 p true) rfl)
        · have hS' := hS (by omega)
          have ho5 : nI o < (5 : Int32) := nI_lt (a := o) (b := 5) (by omega) (by decide)
          have hr5 : ¬ (RS M o p true).2 8 = 5 := fun h => h5 ((nI_eq (a := o) (b := 5) (by omega) (by decide)).mp h)
          have ro : sF (sF (RS M o p true) 8 ((RS M o p true).2 8 + 1)) 6 ((RS M o p true).2 6 + 1) = RS M (o + 1) (p + 1) true := by
            have e1 : (RS M o p true).2 8 + 1 = nI (o + 1) := nI_1 o
            have e2 : (RS M o p true).2 6 + 1 = nI (p + 1) := nI_1 p
            rw [e1, e2, RS_op, RS_p]
          have rb : ∀ (p2 : Nat) (ok : Bool), sF (RS M (o + 1) p2 ok) 8 ((RS M (o + 1) p2 ok).2 8 - 1) = RS M o p2 ok := fun p2 ok => by
            have e1 : (RS M (o + 1) p2 ok).2 8 - 1 = nI o := nI_pred o
            rw [e1, RS_op]
          by_cases hnot : B p = 33
          · obtain ⟨p2, ok2, a, b, g1, g2, g3, g4, g5, g6⟩ := hS' (p + 1) hpe
            refine ⟨p2, ok2, if a = 0 then 1 else 0, if b = 0 then 1 else 0, g1, by omega, fun _ => by omega, fun hV => by rw [g4 hV], cgo _ _ ?_, rgo _ _ ?_⟩
            · refine iteT ho5 (bIE (iteT (by rw [hnot]; rfl) ?_))
              rw [CS_p1, nI_1]
              refine cbE g5 ?_
              by_cases ha : a = 0
              · exact iteT ha (by rw [if_pos ha])
              · exact iteF ha (by rw [if_neg ha])
            · refine iteF hr5 (bIE (bIE (iteT (by rw [hnot]; rfl) ?_)))
              rw [ro]
              refine cbE g6 (bIE (iteT (by rw [hnot]; rfl) ?_))
              rw [rb]
              by_cases hb0 : b = 0
              · exact iteT hb0 (by rw [if_pos hb0])
              · exact iteF hb0 (by rw [if_neg hb0])
          · have h40 : B p = 40 := h33.resolve_left hnot
            obtain ⟨p2, ok2, a, b, g1, g2, g3, g4, g5, g6⟩ := sim_up (i := i) (x1 := nI (o + 1)) (fc := fc) hT hS' (p + 1) hpe
            have c56 : ∀ v T, (if (((CS S en p2 ok2).2 1) ≤ ((CS S en p2 ok2).2 2) : Prop) then f_X2_part_131 i F fc (CS S en p2 ok2) else gix ((CS S en p2 ok2).2 2) 50 fun k18 => if ((F k18) = 41 : Prop) then bI (((CS S en p2 ok2).2 2) + 1) fun v20 => some (a, (sF (CS S en p2 ok2) 2 v20)) else f_X2_part_131 i F fc (CS S en p2 ok2)) = some (v, T) → f_X2_part_56 i F fc (nI o) (nI (B p)) (CS S en p true) = some (v, T) := fun v T h => by
              refine iteT ho5 (bIE (iteF (by rw [h40]; decide) ?_))
              rw [CS_p1, nI_1]
              exact cbE g5 h
            have r39 : ∀ v T, (if ((RS M o p2 ok2).2 12 = 0 : Prop) then f_X12_factor_148 fr (RS M o p2 ok2) else cb (f_X12_byteAt ((RS M (o + 1) p2 ok2).2 6) (RS M o p2 ok2)) fun r23 S21 => if (r23 = 41 : Prop) then bI ((S21.2 6) + 1) fun v25 => some (b, (sF S21 6 v25)) else f_X12_factor_148 fr S21) = some (v, T) → f_X12_factor_39 fr (nI (B p)) (RS M o p true) = some (v, T) := fun v T h => by
              refine iteF hr5 (bIE (bIE (iteF (by rw [h40]; decide) ?_)))
              rw [ro]
              refine cbE g6 (bIE (iteF (by rw [h40]; decide) ?_))
              rw [rb]
              exact h
            by_cases hcl : ok2 = true ∧ p2 < en ∧ B p2 = 41
            · obtain ⟨rfl, hp2, h41⟩ := hcl
              obtain ⟨_, hb2, hF3⟩ := hT.2.2.2.2 p2 hp2
              rw [h41] at hF3
              refine ⟨p2 + 1, true, a, b, hp2, by omega, fun _ => by omega, g4, cgo _ _ (c56 _ _ ?_), rgo _ _ (r39 _ _ ?_)⟩
              · refine iteF (CS_nle hp2 (by omega)) (gixE p2 rfl (show p2 < 50 by omega) (by decide) (iteT (hF3.trans (lo_eq 41 (by decide))) (bIE ?_)))
                rw [CS_p1]
              · refine iteF ne10 (cbE (r_at hT true hp2) (iteT (by rw [h41]; rfl) (bIE ?_)))
                rw [RS_p1]
            · refine ⟨p2, false, 0, 0, g1, by omega, fun h => (nomatch h), fun _ => rfl, cgo _ _ (c56 _ _ ?_), rgo _ _ (r39 _ _ ?_)⟩
              · have c131 : f_X2_part_131 i F fc (CS S en p2 ok2) = some (0, CS S en p2 false) := cbE (c_fail i F S en p2 ok2) rfl
                by_cases q : ok2 = true ∧ p2 < en
                · obtain ⟨rfl, hp2⟩ := q
                  obtain ⟨_, hb2, hF3⟩ := hT.2.2.2.2 p2 hp2
                  have n1 : ¬ B p2 = 41 := fun z => hcl ⟨rfl, hp2, z⟩
                  exact iteF (CS_nle hp2 (by omega)) (gixE p2 rfl (show p2 < 50 by omega) (by decide) (iteF (by rw [hF3]; exact byte_ne (c := 41) hb2 (by decide) n1) c131))
                · exact iteT (CS_le (fun z => by have : ¬ p2 < en := fun y => q ⟨z, y⟩; omega) (by omega) (by omega)) c131
              · have r148 : f_X12_factor_148 fr (RS M o p2 ok2) = some (0, RS M o p2 false) := cbE (r_fails M o p2 ok2) rfl
                cases ok2
                · exact iteT rfl r148
                · obtain ⟨c, hc, hx⟩ := r_pk (o := o) hT g1 true
                  have hn : ¬ c = 41 := fun h3 => by
                    obtain ⟨y1, y2⟩ := hx 41 (by decide) h3
                    exact hcl ⟨rfl, y1, y2⟩
                  exact iteF ne10 (cbE hc (iteF hn r148))
      · have n33 : ¬ B p = 33 := fun z => h33 (Or.inl z)
        have n40 : ¬ B p = 40 := fun z => h33 (Or.inr z)
        have cgo : f_X2_part i F fc (nI o) (CS S en p true) = f_X2_name i F (F p) (CS S en p true) := by
          have hz := c_name (S := S) hN hT hpe
          cases hi : isNm u (B p)
          · rw [hi, if_neg (by decide)] at hz
            rw [hz]
            exact iteT (CS_lt hpe (by omega)) (gixE p rfl (show p < 50 by omega) (by decide) (bIE (csE cd (iteT rfl (iteF (by rw [hF]; exact byte_ne (c := 33) hb (by decide) n33) (iteF (by rw [hF]; exact byte_ne (c := 40) hb (by decide) n40) (cbE hz rfl)))))))
          · rw [hi, if_pos rfl] at hz
            rw [hz]
            exact iteT (CS_lt hpe (by omega)) (gixE p rfl (show p < 50 by omega) (by decide) (bIE (csE cd (iteT rfl (iteF (by rw [hF]; exact byte_ne (c := 33) hb (by decide) n33) (iteF (by rw [hF]; exact byte_ne (c := 40) hb (by decide) n40) (cbE hz rfl)))))))
        have hz := c_name (S := S) hN hT hpe
        have hy := r_named (M := M) (o := o) (p := p) hT.2.1 hT.2.2.1 (Or.inl ⟨rfl, hb⟩)
        have m33 : ¬ nI (B p) = 33 := fun z => n33 ((nI_eq (a := B p) (b := 33) (by omega) (by decide)).mp z)
        have m40 : ¬ nI (B p) = 40 := fun z => n40 ((nI_eq (a := B p) (b := 40) (by omega) (by decide)).mp z)
        cases hi : isNm u (B p)
        · rw [hi, if_neg (by decide)] at hz hy
          exact ⟨p, false, 0, 0, hp, Nat.le_refl _, fun h => (nomatch h), fun _ => rfl, cgo.trans hz, cbE (r_at hT true hpe) (csE rd (iteT rfl (iteF m33 (iteF m40 (cbE hy rfl)))))⟩
        · rw [hi, if_pos rfl] at hz hy
          refine ⟨p + 1, true, _, _, hpe, by omega, fun _ => by omega, fun hV => ?_, cgo.trans hz, cbE (r_at hT true hpe) (csE rd (iteT rfl (iteF m33 (iteF m40 (cbE hy rfl)))))⟩
          rw [hV.1, hV.2.1, hV.2.2]
    · rw [hd] at cd rd
      obtain ⟨p', v, g1, g2, g3, g4⟩ := sim_number (i := i) (S := S) (o := o) hT hpe hd
      exact ⟨p', true, v, v, g1, by omega, fun _ => g2, fun _ => rfl, iteT (CS_lt hpe (by omega)) (gixE p rfl (show p < 50 by omega) (by decide) (bIE (csE cd (iteF ne10 (cbE g3 rfl))))), cbE (r_at hT true hpe) (csE rd (iteF ne10 (cbE g4 rfl)))⟩
  · refine ⟨p, false, 0, 0, hp, Nat.le_refl _, fun h => (nomatch h), fun _ => rfl, ?_, ?_⟩
    · exact iteF (CS_nlt (fun _ => by omega) (by omega) (by omega)) (cbE (c_fail i F S en p true) rfl)
    · have hy := r_named (M := M) (o := o) (p := p) hT.2.1 hT.2.2.1 (Or.inr ⟨rfl, rfl⟩)
      have hi : isNm u 0 = false := by
        have hu2 : u = 0 ∨ u = 1 := by have := hT.2.1; omega
        rcases hu2 with rfl | rfl <;> rfl
      rw [hi, if_neg (by decide)] at hy
      exact cbE (r_end hT true (by omega) (by omega)) (csE r_isDgE (iteT rfl (iteF (by decide) (iteF (by decide) (cbE hy rfl)))))
theorem sim_all (hN : NMok i u) (hT : TX u F B M en) : ∀ (j o n : Nat), o + j = 5 → j < n → Sim (VV S M) S M en o (fr_X2_part i F n (nI o)) (fr_X12_factor n) := by
  intro j
  induction j with
  | zero =>
    intro o n ho hn
    obtain ⟨n, rfl⟩ : ∃ z, n = z + 1 := ⟨n - 1, by omega⟩
    exact sim_part (fc := fr_X2_part i F n) (fr := fr_X12_factor n) hN hT (by omega) (fun h => by omega)
  | succ j ih =>
    intro o n ho hn
    obtain ⟨n, rfl⟩ : ∃ z, n = z + 1 := ⟨n - 1, by omega⟩
    exact sim_part (fc := fr_X2_part i F n) (fr := fr_X12_factor n) hN hT (by omega) (fun h => ih (o + 1) n (by omega) (by omega))
theorem sim_text (hN : NMok i u) (hT : TX u F B M en) : Sim (VV S M) S M en 0 (f_X2_either i F (fr_X2_part i F 8) 0) (f_X12_whole (fr_X12_factor 8)) := sim_up (x1 := 0) hT (sim_all hN hT 5 0 8 (by decide) (by decide))
end PARTS
