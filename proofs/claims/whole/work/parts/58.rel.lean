/-! ===== the relation between the lift and the row, by groups of cells ===== -/
def ClT (r : Nat → Int32) (u : Nat) (a : Nat → Int32) (l : Int32) : Prop := (r (6 + u) = -1 ∧ l = nI (dfL u) ∧ ∀ k, k < dfL u → ji2b (a k) = ji2b (nI (dfB u k))) ∨ (isNI (r (6 + u)) 51 ∧ l = r (6 + u) ∧ ∀ k, k < tL r u → ji2b (a k) = ji2b (nI (tB r u k)))
def Gh (r : Nat → Int32) (s0 : Int32) : Prop := (∀ f, f < 8 → isNI (r (10 + f)) 3) ∧ s0 = eD (rE r)
def Gr (r : Nat → Int32) (RD : RDt) (a1 : Nat → Int32) : Prop := ∀ i, i < 6 → (isNI (r (18 + 3 * i)) 7 ∧ isNI (r (18 + 3 * i + 1)) 10 ∧ isNI (r (18 + 3 * i + 2)) 6561) ∧ a1 i = eD (dg (rS r i)) ∧ RD i = (kcl (nI (rK r i)), nI (rK r i), nI (rMm r i), nI i)
def Gn (r : Nat → Int32) (s6 : Int32) : Prop := isNI (r 3) 7 ∧ s6 = r 3
def Gt (r : Nat → Int32) (s2 : Int32) : Prop := isNI (r 9) 10 ∧ s2 = r 9
def Gw (r : Nat → Int32) (s1 : Int32) : Prop := isNI (r 8) 256 ∧ s1 = r 8
def Gd (r : Nat → Int32) (s3 : Int32) : Prop := isNI (r 0) 10000 ∧ s3 = r 0
def Gx (r : Nat → Int32) (s4 : Int32) : Prop := isNI (r 1) 10000 ∧ s4 = r 1
def Gz (r : Nat → Int32) (s5 : Int32) : Prop := s5 = r 2
def Gp (r : Nat → Int32) (s7 : Int32) (a2 : Nat → Int32) : Prop := isNI (r 4) 51 ∧ s7 = r 4 ∧ ∀ k, k < 50 → isNI (r (36 + k)) 256 ∧ ji2b (a2 k) = ji2b (r (36 + k))
def Gq (r : Nat → Int32) (s8 : Int32) (a3 : Nat → Int32) : Prop := isNI (r 5) 21 ∧ s8 = r 5 ∧ ∀ k, k < 20 → a3 k = r (86 + k)
def Gl (r : Nat → Int32) (a4 a5 a6 : Nat → Int32) (l0 l1 : Int32) : Prop := TxOk r 0 ∧ TxOk r 1 ∧ (∀ h c n, h + c + n ≤ 8 → a4 ((h * 9 + c) * 9 + n) = rLw r 0 (nI h) (nI c) (nI n)) ∧ ClT r 0 a5 l0 ∧ ClT r 1 a6 l1
def Lf (r : Nat → Int32) (RD : RDt) (S : MS) : Prop := Gh r (S.2 0) ∧ Gr r RD (S.1 1) ∧ Gn r (S.2 6) ∧ Gt r (S.2 2) ∧ Gw r (S.2 1) ∧ Gd r (S.2 3) ∧ Gx r (S.2 4) ∧ Gz r (S.2 5) ∧ Gp r (S.2 7) (S.1 2) ∧ Gq r (S.2 8) (S.1 3) ∧ Gl r (S.1 4) (S.1 5) (S.1 6) (S.2 20) (S.2 30)
section GROUPS
variable {r r2 : Nat → Int32} {RD : RDt} {S : MS}
theorem Lf.h (L : Lf r RD S) : Gh r (S.2 0) := L.1
theorem Lf.rr (L : Lf r RD S) : Gr r RD (S.1 1) := L.2.1
theorem Lf.n (L : Lf r RD S) : Gn r (S.2 6) := L.2.2.1
theorem Lf.t (L : Lf r RD S) : Gt r (S.2 2) := L.2.2.2.1
theorem Lf.w (L : Lf r RD S) : Gw r (S.2 1) := L.2.2.2.2.1
theorem Lf.d (L : Lf r RD S) : Gd r (S.2 3) := L.2.2.2.2.2.1
theorem Lf.x (L : Lf r RD S) : Gx r (S.2 4) := L.2.2.2.2.2.2.1
theorem Lf.z (L : Lf r RD S) : Gz r (S.2 5) := L.2.2.2.2.2.2.2.1
theorem Lf.p (L : Lf r RD S) : Gp r (S.2 7) (S.1 2) := L.2.2.2.2.2.2.2.2.1
theorem Lf.q (L : Lf r RD S) : Gq r (S.2 8) (S.1 3) := L.2.2.2.2.2.2.2.2.2.1
theorem Lf.l (L : Lf r RD S) : Gl r (S.1 4) (S.1 5) (S.1 6) (S.2 20) (S.2 30) := L.2.2.2.2.2.2.2.2.2.2
theorem Lf.wf (L : Lf r RD S) : Wf r := ⟨L.h.1, fun i hi => (L.rr i hi).1, L.n.1, L.t.1, L.w.1, L.l.1, L.l.2.1⟩
theorem Lf.abc (L : Lf r RD S) : AbC r RD S := ⟨L.t.2, L.n.2, fun i hi => (L.rr i hi).2, L.l.2.2.1⟩
theorem Gh.cg {s : Int32} (h : ∀ j, 10 ≤ j → j < 18 → r2 j = r j) (g : Gh r s) : Gh r2 s := by
  refine ⟨fun f hf => by rw [h _ (by omega) (by omega)]; exact g.1 f hf, g.2.trans (eD_congr (fun f hf => ?_))⟩
  unfold rE
  rw [h _ (by omega) (by omega)]
theorem Gr.cg {a : Nat → Int32} (h : ∀ j, 18 ≤ j → j < 36 → r2 j = r j) (g : Gr r RD a) : Gr r2 RD a := by
  intro i hi
  have g1 := g i hi
  have e1 : r2 (18 + 3 * i) = r (18 + 3 * i) := h _ (by omega) (by omega)
  have e2 : r2 (18 + 3 * i + 1) = r (18 + 3 * i + 1) := h _ (by omega) (by omega)
  have e3 : r2 (18 + 3 * i + 2) = r (18 + 3 * i + 2) := h _ (by omega) (by omega)
  unfold rS rK rMm at *
  rw [e1, e2, e3]
  exact g1
theorem Gn.cg {s : Int32} (h : r2 3 = r 3) (g : Gn r s) : Gn r2 s := by unfold Gn; rw [h]; exact g
theorem Gt.cg {s : Int32} (h : r2 9 = r 9) (g : Gt r s) : Gt r2 s := by unfold Gt; rw [h]; exact g
theorem Gw.cg {s : Int32} (h : r2 8 = r 8) (g : Gw r s) : Gw r2 s := by unfold Gw; rw [h]; exact g
theorem Gd.cg {s : Int32} (h : r2 0 = r 0) (g : Gd r s) : Gd r2 s := by unfold Gd; rw [h]; exact g
theorem Gx.cg {s : Int32} (h : r2 1 = r 1) (g : Gx r s) : Gx r2 s := by unfold Gx; rw [h]; exact g
theorem Gz.cg {s : Int32} (h : r2 2 = r 2) (g : Gz r s) : Gz r2 s := by unfold Gz; rw [h]; exact g
theorem Gp.cg {s : Int32} {a : Nat → Int32} (h4 : r2 4 = r 4) (h : ∀ j, 36 ≤ j → j < 86 → r2 j = r j) (g : Gp r s a) : Gp r2 s a := by
  unfold Gp
  rw [h4]
  exact ⟨g.1, g.2.1, fun k hk => by rw [h _ (by omega) (by omega)]; exact g.2.2 k hk⟩
theorem Gq.cg {s : Int32} {a : Nat → Int32} (h5 : r2 5 = r 5) (h : ∀ j, 86 ≤ j → j < 106 → r2 j = r j) (g : Gq r s a) : Gq r2 s a := by
  unfold Gq
  rw [h5]
  exact ⟨g.1, g.2.1, fun k hk => by rw [h _ (by omega) (by omega)]; exact g.2.2 k hk⟩
theorem GoodT_cg {u en : Nat} {B B2 : Nat → Nat} (h : ∀ k, k < en → B2 k = B k) (g : GoodT u en B) : GoodT u en B2 := by
  obtain ⟨M, a, b, c, w, h1, h2⟩ := g
  exact ⟨M, a, b, c, w, ⟨h1.1, fun k hk => by rw [h k hk]; exact h1.2 k hk⟩, h2⟩
/-- the texts' cells are the same -/
def TxEq (r r2 : Nat → Int32) : Prop := ∀ j, 6 ≤ j → (j < 8 ∨ 106 ≤ j) → j < 206 → r2 j = r j
theorem tL_cg (h : TxEq r r2) {u : Nat} (hu : u < 2) : tL r2 u = tL r u := by unfold tL; rw [h _ (by omega) (by omega) (by omega)]
theorem TxOk.cg (h : TxEq r r2) {u : Nat} (hu : u < 2) (g : TxOk r u) : TxOk r2 u := by
  have e6 : r2 (6 + u) = r (6 + u) := h _ (by omega) (by omega) (by omega)
  rcases g with g | g
  · exact Or.inl (e6.trans g)
  · have hen : tL r u < 51 := g.1.2
    have eL := tL_cg h hu
    have eB : ∀ k, k < tL r u → r2 (106 + 50 * u + k) = r (106 + 50 * u + k) := fun k hk => h _ (by omega) (by omega) (by omega)
    refine Or.inr ⟨by rw [e6]; exact g.1, fun k hk => ?_, ?_⟩
    · rw [eL] at hk
      rw [eB k hk]; exact g.2.1 k hk
    · rw [eL]
      exact GoodT_cg (fun k hk => by unfold tB; rw [eB k hk]) g.2.2
theorem rLw_cg (h : TxEq r r2) {u : Nat} (hu : u < 2) (g : TxOk r u) (a b c : Int32) : rLw r2 u a b c = rLw r u a b c := by
  have e6 : r2 (6 + u) = r (6 + u) := h _ (by omega) (by omega) (by omega)
  rcases g with g | g
  · have h1 : r (6 + u) < 0 := by rw [g]; exact neg1
    have h2 : r2 (6 + u) < 0 := by rw [e6]; exact h1
    exact (if_pos h2).trans (if_pos h1).symm
  · have hp : ¬ r (6 + u) < 0 := g.1.pos (by decide)
    have hp2 : ¬ r2 (6 + u) < 0 := by rw [e6]; exact hp
    have hen : tL r u ≤ 50 := Nat.le_of_lt_succ g.1.2
    have hM : TXr (fun _ => r, fun _ => 0) u (tL r u) (tB r u) := ⟨g.1.1, fun k hk => ⟨(g.2.1 k hk).1, (g.2.1 k hk).2⟩⟩
    have hM2 : TXr (fun _ => r2, fun _ => 0) u (tL r u) (tB r u) := ⟨e6.trans g.1.1, fun k hk => ⟨(h _ (by omega) (by omega) (by omega)).trans (g.2.1 k hk).1, (g.2.1 k hk).2⟩⟩
    obtain ⟨w, h1, h2⟩ := walk_eq hu hen g.2.2 hM hM2 a b c
    refine (if_neg hp2).trans (Eq.trans ?_ (if_neg hp).symm)
    rw [h1, h2]
    rfl
theorem ClT.cg (h : TxEq r r2) {u : Nat} (hu : u < 2) {a : Nat → Int32} {l : Int32} (g : ClT r u a l) : ClT r2 u a l := by
  have e6 : r2 (6 + u) = r (6 + u) := h _ (by omega) (by omega) (by omega)
  rcases g with g | g
  · exact Or.inl ⟨e6.trans g.1, g.2⟩
  · have hen : tL r u < 51 := g.1.2
    refine Or.inr ⟨by rw [e6]; exact g.1, by rw [e6]; exact g.2.1, fun k hk => ?_⟩
    rw [tL_cg h hu] at hk
    rw [g.2.2 k hk]
    unfold tB
    rw [h _ (by omega) (by omega) (by omega)]
theorem Gl.cg {a4 a5 a6 : Nat → Int32} {l0 l1 : Int32} (h : TxEq r r2) (g : Gl r a4 a5 a6 l0 l1) : Gl r2 a4 a5 a6 l0 l1 := ⟨g.1.cg h (by decide), g.2.1.cg h (by decide), fun x y z hs => (g.2.2.1 x y z hs).trans (rLw_cg h (by decide) g.1 _ _ _).symm, g.2.2.2.1.cg h (by decide), g.2.2.2.2.cg h (by decide)⟩
theorem Lf.cg (h : ∀ j, j < 206 → r2 j = r j) (L : Lf r RD S) : Lf r2 RD S := ⟨L.h.cg (fun j _ _ => h j (by omega)), L.rr.cg (fun j _ _ => h j (by omega)), L.n.cg (h 3 (by decide)), L.t.cg (h 9 (by decide)), L.w.cg (h 8 (by decide)), L.d.cg (h 0 (by decide)), L.x.cg (h 1 (by decide)), L.z.cg (h 2 (by decide)), L.p.cg (h 4 (by decide)) (fun j _ _ => h j (by omega)), L.q.cg (h 5 (by decide)) (fun j _ _ => h j (by omega)), L.l.cg (fun j _ _ h3 => h j h3)⟩
end GROUPS
/-! the class's law -/
theorem Gl.cl {r : Nat → Int32} {S : MS} {u : Nat} (hu : u < 2) (g : Gl r (S.1 4) (S.1 5) (S.1 6) (S.2 20) (S.2 30)) : TxOk r u ∧ ClT r u (S.1 (5 + u)) (S.2 (20 + 10 * u)) := by
  have hu2 : u = 0 ∨ u = 1 := by omega
  rcases hu2 with rfl | rfl
  · exact ⟨g.1, g.2.2.2.1⟩
  · exact ⟨g.2.1, g.2.2.2.2⟩
theorem dfL_le {u : Nat} (hu : u < 2) : dfL u ≤ 50 := by
  have hu2 : u = 0 ∨ u = 1 := by omega
  rcases hu2 with rfl | rfl <;> decide
theorem c_gives {r : Nat → Int32} {S : MS} {u : Nat} (hu : u < 2) (hT : TxOk r u) (hC : ClT r u (S.1 (5 + u)) (S.2 (20 + 10 * u))) (a b c : Int32) : ∃ T : MS, T.2 0 = S.2 (20 + 10 * u) ∧ f_X2_gives (iU u) (lvF u S) a b c (lvS u S) = some (rLw r u a b c, T) := by
  have hl : ∀ x : MS, (sF (sF (sF x 4 a) 5 b) 6 c).2 0 = x.2 0 := fun _ => rfl
  rcases hC with hC | hC
  · obtain ⟨v, w, h1, h2, h3⟩ := good_run (NM_u hu) hu (dfL_le hu) (df_good u hu) (df_TXr u hu) (F := lvF u S) (fun k hk => hC.2.2 k hk) (sF (sF (sF (lvS u S) 4 a) 5 b) 6 c) a b c
    have e1 := h1 rfl rfl rfl
    have e2 : w = dfV u a b c := congrArg Prod.fst (Option.some.inj (h3.symm.trans (df_walk u hu a b c)))
    have e3 : rLw r u a b c = heldI (dfV u a b c) (-99) 99 := if_pos (by rw [hC.1]; exact neg1)
    refine ⟨CS (sF (sF (sF (lvS u S) 4 a) 5 b) 6 c) (dfL u) (dfL u) true, CS_o _ _ _ _ 0 (Or.inl rfl), ?_⟩
    refine cbE (r := v) (S := CS (sF (sF (sF (lvS u S) 4 a) 5 b) 6 c) (dfL u) (dfL u) true) ?_ (csE (c_held (by decide)) ?_)
    · show f_X2_read (iU u) (lvF u S) (S.2 (20 + 10 * u + 0)) _ = _
      rw [Nat.add_zero, hC.2.1]
      exact h2
    · rw [e3, ← e2, e1]
  · have hT2 : isNI (r (6 + u)) 51 ∧ (∀ k, k < tL r u → isNI (r (106 + 50 * u + k)) 256) ∧ GoodT u (tL r u) (tB r u) := by
      rcases hT with hT | hT
      · exact absurd hT (fun z => hC.1.pos (by decide) (by rw [z]; exact neg1))
      · exact hT
    have hM : TXr (fun _ => r, fun _ => 0) u (tL r u) (tB r u) := ⟨hT2.1.1, fun k hk => ⟨(hT2.2.1 k hk).1, (hT2.2.1 k hk).2⟩⟩
    obtain ⟨v, w, h1, h2, h3⟩ := good_run (NM_u hu) hu (Nat.le_of_lt_succ hT2.1.2) hT2.2.2 hM (F := lvF u S) (fun k hk => hC.2.2 k hk) (sF (sF (sF (lvS u S) 4 a) 5 b) 6 c) a b c
    have e1 := h1 rfl rfl rfl
    have e3 : rLw r u a b c = heldI w (-99) 99 := by
      refine (if_neg (hC.1.pos (by decide))).trans ?_
      rw [h3]
      rfl
    refine ⟨CS (sF (sF (sF (lvS u S) 4 a) 5 b) 6 c) (tL r u) (tL r u) true, CS_o _ _ _ _ 0 (Or.inl rfl), ?_⟩
    refine cbE (r := v) (S := CS (sF (sF (sF (lvS u S) 4 a) 5 b) 6 c) (tL r u) (tL r u) true) ?_ (csE (c_held (by decide)) ?_)
    · show f_X2_read (iU u) (lvF u S) (S.2 (20 + 10 * u + 0)) _ = _
      rw [Nat.add_zero, hC.2.1, hC.1.1]
      exact h2
    · rw [e3, e1]
