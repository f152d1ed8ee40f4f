/-! ===== what a use gives without another text ===== -/
def dfL (u : Nat) : Nat := if u = 0 then 9 else 7
def dfB (u k : Nat) : Nat := if u = 0 then ([104, 42, 50, 43, 110, 45, 99, 42, 52] : List Nat).getD k 0 else ([115, 47, 107, 45, 100, 42, 50] : List Nat).getD k 0
def dfM (u : Nat) : MS := (fun _ j => if j = 6 + u then nI (dfL u) else nI (dfB u (j - (106 + 50 * u))), fun _ => 0)
def dfV (u : Nat) (a b c : Int32) : Int32 := if u = 0 then ((a * 2) + c) - (b * 4) else (if b = 0 then 0 else a / b) - (c * 2)
section RUNS
variable {u : Nat} {F : Nat → Int32} {B : Nat → Nat} {M : MS} {en o : Nat} {fr : MS → Option (Int32 × MS)}
theorem rfN (hT : TX u F B M en) {p : Nat} (hp : p < en) (h1 : isDg (B p) = false) (h2 : ¬ B p = 33) (h3 : ¬ B p = 40) (h4 : isNm u (B p) = true) : f_X12_factor fr (RS M o p true) = some (nmV u (B p) (M.2 9) (M.2 10) (M.2 11), RS M o (p + 1) true) := by
  obtain ⟨hM, hb, hF⟩ := hT.2.2.2.2 p hp
  have rd := r_isDg (B p) hb
  rw [h1] at rd
  have hy := r_named (M := M) (o := o) (p := p) hT.2.1 hT.2.2.1 (Or.inl ⟨rfl, hb⟩)
  rw [if_pos h4] at hy
  have m33 : ¬ nI (B p) = 33 := fun z => h2 ((nI_eq (a := B p) (b := 33) (by omega) (by decide)).mp z)
  have m40 : ¬ nI (B p) = 40 := fun z => h3 ((nI_eq (a := B p) (b := 40) (by omega) (by decide)).mp z)
  exact cbE (r_at hT true hp) (csE rd (iteT rfl (iteF m33 (iteF m40 (cbE hy rfl)))))
theorem rn_go (hT : TX u F B M en) {p k : Nat} (n : Nat) (x : Int32) (hk : ¬ (4 : Int32) ≤ nI k) (hp : p < en) (h1 : isDg (B p) = true) : f_X12_number_4 (n + 1) x (nI k) (RS M o p true) = f_X12_number_4 n (((10 * x) + nI (B p)) - 48) (nI (k + 1)) (RS M o (p + 1) true) := by
  obtain ⟨hM, hb, hF⟩ := hT.2.2.2.2 p hp
  have rd := r_isDg (B p) hb
  rw [h1] at rd
  refine iteF hk (cbE (r_at hT true hp) (csE rd (iteF ne10 (cbE (r_at hT true hp) (bIE (bIE (bIE ?_)))))))
  rw [RS_p1, nI_1]
theorem rn_stop (hT : TX u F B M en) {p k : Nat} (n : Nat) (x : Int32) (hk : ¬ (4 : Int32) ≤ nI k) (hp : p ≤ en) (h1 : p < en → isDg (B p) = false) : f_X12_number_4 (n + 1) x (nI k) (RS M o p true) = some (x, RS M o p true) := by
  have h50 := hT.1
  by_cases hp1 : p < en
  · obtain ⟨_, hb1, _⟩ := hT.2.2.2.2 p hp1
    have rd1 := r_isDg (B p) hb1
    rw [h1 hp1] at rd1
    exact iteF hk (cbE (r_at hT true hp1) (csE rd1 (iteT rfl rfl)))
  · exact iteF hk (cbE (r_end hT true (by omega) (by omega)) (csE r_isDgE (iteT rfl rfl)))
theorem rfD (hT : TX u F B M en) {p : Nat} (hp : p < en) (h1 : isDg (B p) = true) (h2 : p + 1 < en → isDg (B (p + 1)) = false) : f_X12_factor fr (RS M o p true) = some (((10 * 0) + nI (B p)) - 48, RS M o (p + 1) true) := by
  obtain ⟨hM, hb, hF⟩ := hT.2.2.2.2 p hp
  have rd := r_isDg (B p) hb
  rw [h1] at rd
  have hnum : f_X12_number (RS M o p true) = some (((10 * 0) + nI (B p)) - 48, RS M o (p + 1) true) := (rn_go hT (k := 0) 99 0 (by decide) hp h1).trans (rn_stop hT (k := 1) 98 _ (by decide) hp h2)
  exact cbE (r_at hT true hp) (csE rd (iteF ne10 (cbE hnum rfl)))
theorem r_up (hT : TX u F B M en) {p : Nat} {v : Int32} (h : f_X12_sum fr (RS M o p true) = some (v, RS M o en true)) : f_X12_whole fr (RS M o p true) = some (v, RS M o en true) := by
  have h50 := hT.1
  have hc : f_X12_compared fr (RS M o p true) = some (v, RS M o en true) := by
    exact cbE h (iteF ne10 (cbE (r_end hT true (Nat.le_refl _) (by omega)) (iteF (by decide) (iteF (by decide) (iteF (by decide) rfl)))))
  have hb : f_X12_both fr (RS M o p true) = some (v, RS M o en true) := cbE hc (r1_both hT 99 v en true (Nat.le_refl _) (fun _ h => absurd h (Nat.lt_irrefl _)))
  exact cbE hb (r1_either hT 99 v en true (Nat.le_refl _) (fun _ h => absurd h (Nat.lt_irrefl _)))
end RUNS
theorem df_TX (u : Nat) (hu : u < 2) (a b c : Int32) : TX u (fun k => ji2b (nI (dfB u k))) (dfB u) (wkS (dfM u) u (dfL u) a b c) (dfL u) := by
  have hu2 : u = 0 ∨ u = 1 := by omega
  refine ⟨?_, hu, rfl, rfl, fun k hk => ⟨?_, ?_, rfl⟩⟩
  · rcases hu2 with rfl | rfl <;> decide
  · show (if 106 + 50 * u + k = 6 + u then _ else nI (dfB u (106 + 50 * u + k - (106 + 50 * u)))) = _
    rw [if_neg (by omega), Nat.add_sub_cancel_left]
  · have h0 : ∀ k, k < 9 → dfB 0 k < 256 := by decide
    have h1 : ∀ k, k < 7 → dfB 1 k < 256 := by decide
    rcases hu2 with rfl | rfl
    · exact h0 k hk
    · exact h1 k hk
theorem df_TXr (u : Nat) (hu : u < 2) : TXr (dfM u) u (dfL u) (dfB u) := ⟨if_pos rfl, fun k hk => ⟨((df_TX u hu 0 0 0).2.2.2.2 k hk).1, ((df_TX u hu 0 0 0).2.2.2.2 k hk).2.1⟩⟩
theorem df_0 (a b c : Int32) : f_X12_whole (fr_X12_factor 8) (RS (wkS (dfM 0) 0 9 a b c) 0 0 true) = some (dfV 0 a b c, RS (wkS (dfM 0) 0 9 a b c) 0 9 true) := by
  have hT := df_TX 0 (by decide) a b c
  have h0 : fr_X12_factor 8 (RS (wkS (dfM 0) 0 9 a b c) 0 0 true) = some (a, RS (wkS (dfM 0) 0 9 a b c) 0 1 true) := rfN hT (p := 0) (by decide) rfl (by decide) (by decide) rfl
  have h2 : fr_X12_factor 8 (RS (wkS (dfM 0) 0 9 a b c) 0 2 true) = some (2, RS (wkS (dfM 0) 0 9 a b c) 0 3 true) := rfD hT (p := 2) (by decide) rfl (fun _ => rfl)
  have h4 : fr_X12_factor 8 (RS (wkS (dfM 0) 0 9 a b c) 0 4 true) = some (c, RS (wkS (dfM 0) 0 9 a b c) 0 5 true) := rfN hT (p := 4) (by decide) rfl (by decide) (by decide) rfl
  have h6 : fr_X12_factor 8 (RS (wkS (dfM 0) 0 9 a b c) 0 6 true) = some (b, RS (wkS (dfM 0) 0 9 a b c) 0 7 true) := rfN hT (p := 6) (by decide) rfl (by decide) (by decide) rfl
  have h8 : fr_X12_factor 8 (RS (wkS (dfM 0) 0 9 a b c) 0 8 true) = some (4, RS (wkS (dfM 0) 0 9 a b c) 0 9 true) := rfD hT (p := 8) (by decide) rfl (fun h => absurd h (by decide))
  have p0 : f_X12_product (fr_X12_factor 8) (RS (wkS (dfM 0) 0 9 a b c) 0 0 true) = some (a * 2, RS (wkS (dfM 0) 0 9 a b c) 0 3 true) := cbE h0 ((r2_product hT 99 a 1 2 3 true (by decide) rfl h2).trans (r1_product hT 98 _ 3 true (by decide) (fun _ _ => rfl)))
  have p4 : f_X12_product (fr_X12_factor 8) (RS (wkS (dfM 0) 0 9 a b c) 0 4 true) = some (c, RS (wkS (dfM 0) 0 9 a b c) 0 5 true) := cbE h4 (r1_product hT 99 _ 5 true (by decide) (fun _ _ => rfl))
  have p6 : f_X12_product (fr_X12_factor 8) (RS (wkS (dfM 0) 0 9 a b c) 0 6 true) = some (b * 4, RS (wkS (dfM 0) 0 9 a b c) 0 9 true) := cbE h6 ((r2_product hT 99 b 7 4 9 true (by decide) rfl h8).trans (r1_product hT 98 _ 9 true (by decide) (fun _ h => absurd h (by decide))))
  have s0 : f_X12_sum (fr_X12_factor 8) (RS (wkS (dfM 0) 0 9 a b c) 0 0 true) = some (((a * 2) + c) - (b * 4), RS (wkS (dfM 0) 0 9 a b c) 0 9 true) := cbE p0 ((r2_sum hT 99 (a * 2) 3 c 5 true (by decide) rfl p4).trans ((r2_sum hT 98 _ 5 (b * 4) 9 true (by decide) rfl p6).trans (r1_sum hT 97 _ 9 true (by decide) (fun _ h => absurd h (by decide)))))
  exact r_up hT s0
theorem df_1 (a b c : Int32) : f_X12_whole (fr_X12_factor 8) (RS (wkS (dfM 1) 1 7 a b c) 0 0 true) = some (dfV 1 a b c, RS (wkS (dfM 1) 1 7 a b c) 0 7 true) := by
  have hT := df_TX 1 (by decide) a b c
  have h0 : fr_X12_factor 8 (RS (wkS (dfM 1) 1 7 a b c) 0 0 true) = some (a, RS (wkS (dfM 1) 1 7 a b c) 0 1 true) := rfN hT (p := 0) (by decide) rfl (by decide) (by decide) rfl
  have h2 : fr_X12_factor 8 (RS (wkS (dfM 1) 1 7 a b c) 0 2 true) = some (b, RS (wkS (dfM 1) 1 7 a b c) 0 3 true) := rfN hT (p := 2) (by decide) rfl (by decide) (by decide) rfl
  have h4 : fr_X12_factor 8 (RS (wkS (dfM 1) 1 7 a b c) 0 4 true) = some (c, RS (wkS (dfM 1) 1 7 a b c) 0 5 true) := rfN hT (p := 4) (by decide) rfl (by decide) (by decide) rfl
  have h6 : fr_X12_factor 8 (RS (wkS (dfM 1) 1 7 a b c) 0 6 true) = some (2, RS (wkS (dfM 1) 1 7 a b c) 0 7 true) := rfD hT (p := 6) (by decide) rfl (fun h => absurd h (by decide))
  have p0 : f_X12_product (fr_X12_factor 8) (RS (wkS (dfM 1) 1 7 a b c) 0 0 true) = some (fP 47 a b, RS (wkS (dfM 1) 1 7 a b c) 0 3 true) := cbE h0 ((r2_product hT 99 a 1 b 3 true (by decide) rfl h2).trans (r1_product hT 98 _ 3 true (by decide) (fun _ _ => rfl)))
  have p4 : f_X12_product (fr_X12_factor 8) (RS (wkS (dfM 1) 1 7 a b c) 0 4 true) = some (c * 2, RS (wkS (dfM 1) 1 7 a b c) 0 7 true) := cbE h4 ((r2_product hT 99 c 5 2 7 true (by decide) rfl h6).trans (r1_product hT 98 _ 7 true (by decide) (fun _ h => absurd h (by decide))))
  have s0 : f_X12_sum (fr_X12_factor 8) (RS (wkS (dfM 1) 1 7 a b c) 0 0 true) = some (fP 47 a b - (c * 2), RS (wkS (dfM 1) 1 7 a b c) 0 7 true) := cbE p0 ((r2_sum hT 99 _ 3 (c * 2) 7 true (by decide) rfl p4).trans (r1_sum hT 98 _ 7 true (by decide) (fun _ h => absurd h (by decide))))
  have e : fP 47 a b - (c * 2) = dfV 1 a b c := by
    have e1 : fP 47 a b = if b = 0 then 0 else a / b := by
      unfold fP
      rw [if_neg (show ¬ 47 = 42 by decide), if_pos (show 47 = 47 from rfl)]
    rw [e1]
    rfl
  rw [e] at s0
  exact r_up hT s0
theorem df_walk (u : Nat) (hu : u < 2) (a b c : Int32) : f_X12_walks (nI u) a b c (dfM u) = some (dfV u a b c, RS (wkS (dfM u) u (dfL u) a b c) 0 (dfL u) true) := by
  have hu2 : u = 0 ∨ u = 1 := by omega
  have e6 : (6 : Int32) + nI u = nI (6 + u) := by rw [show (6 : Int32) = nI 6 by decide +kernel, nI_add]
  refine gixE (6 + u) e6 (by omega) (by decide) (bIE ?_)
  rw [(df_TXr u hu).1, wk_of]
  have h79 : ∀ (p : Nat) (ok : Bool) (r : Int32), f_X12_walks_79 r 1 (RS (wkS (dfM u) u (dfL u) a b c) 0 p ok) = some (r, RS (wkS (dfM u) u (dfL u) a b c) 0 p true) := fun p ok r => gzE (Or.inr rfl) (congrArg (fun z => some (r, z)) (rP_12 _ _ _ _ _))
  have hw : f_X12_whole (fr_X12_factor 8) (RS (wkS (dfM u) u (dfL u) a b c) 0 0 true) = some (dfV u a b c, RS (wkS (dfM u) u (dfL u) a b c) 0 (dfL u) true) := by
    rcases hu2 with rfl | rfl
    · exact df_0 a b c
    · exact df_1 a b c
  exact cbE hw (iteF ne10 (iteT rfl (h79 _ true _)))
theorem df_good (u : Nat) (hu : u < 2) : GoodT u (dfL u) (dfB u) := ⟨dfM u, 0, 0, 0, _, df_TXr u hu, df_walk u hu 0 0 0⟩
