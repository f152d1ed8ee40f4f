/-! ===== story against heard ===== -/
theorem cs_some {α : Type} (x : Int32) (k : Int32 → Option α) : cs (some x) k = k x := rfl
theorem cb_some {α σ : Type} (x : Int32) (S : σ) (k : Int32 → σ → Option α) : cb (some (x, S)) k = k x S := rfl
def nAs (d e : Nat → Nat) : Nat := cK (fun f => d f != 0 && d f == e f) 8
def nOt (d e : Nat → Nat) : Nat := cK (fun f => d f != 0 && e f != 0 && d f != e f) 8
def nFr (d e : Nat → Nat) : Nat := cK (fun f => d f != 0 && e f == 0) 8
def asD (d e : Nat → Nat) : Nat → Nat := fun f => if d f = e f then d f else 0
def otD (d e : Nat → Nat) : Nat → Nat := fun f => if e f = 0 then 0 else if d f = e f then 0 else d f
def frD (d e : Nat → Nat) : Nat → Nat := fun f => if e f = 0 then d f else 0
def rdD (b : Bool) (d e : Nat → Nat) : Nat → Nat := fun f => if d f = 0 then e f else if e f = 0 then d f else if d f = e f then e f else (bif b then 0 else e f)
theorem x_as {d e : Nat → Nat} (hd : ∀ f, f < 8 → d f < 3) (he : ∀ f, f < 8 → e f < 3) : eD d &&& eD e = eD (asD d e) := by
  unfold eD
  rw [eP_and]
  refine eP_congr (fun f hf => ?_) (fun f hf => ?_) <;> unfold asD <;> rcases lt3 (hd f hf) with h1 | h1 | h1 <;> rcases lt3 (he f hf) with h2 | h2 | h2 <;> simp [h1, h2]
theorem x_ot {d e : Nat → Nat} (hd : ∀ f, f < 8 → d f < 3) (he : ∀ f, f < 8 → e f < 3) : eD d &&& eP (fun f => e f == 2) (fun f => e f == 1) = eD (otD d e) := by
  unfold eD
  rw [eP_and]
  refine eP_congr (fun f hf => ?_) (fun f hf => ?_) <;> unfold otD <;> rcases lt3 (hd f hf) with h1 | h1 | h1 <;> rcases lt3 (he f hf) with h2 | h2 | h2 <;> simp [h1, h2]
theorem x_fr {d e : Nat → Nat} (hd : ∀ f, f < 8 → d f < 3) (he : ∀ f, f < 8 → e f < 3) : eD d &&& (eP (fun f => e f == 1 || e f == 2) (fun f => e f == 1 || e f == 2) ^^^ (-1)) = eD (frD d e) := by
  unfold eD
  rw [eP_andn]
  refine eP_congr (fun f hf => ?_) (fun f hf => ?_) <;> unfold frD <;> rcases lt3 (hd f hf) with h1 | h1 | h1 <;> rcases lt3 (he f hf) with h2 | h2 | h2 <;> simp [h1, h2]
theorem asD_lt {d e : Nat → Nat} (hd : ∀ f, f < 8 → d f < 3) : ∀ f, f < 8 → asD d e f < 3 := fun f hf => by
  have := hd f hf
  unfold asD
  split <;> omega
theorem otD_lt {d e : Nat → Nat} (hd : ∀ f, f < 8 → d f < 3) : ∀ f, f < 8 → otD d e f < 3 := fun f hf => by
  have := hd f hf
  unfold otD
  split
  · omega
  · split <;> omega
theorem frD_lt {d e : Nat → Nat} (hd : ∀ f, f < 8 → d f < 3) : ∀ f, f < 8 → frD d e f < 3 := fun f hf => by
  have := hd f hf
  unfold frD
  split <;> omega
theorem rdD_lt {b : Bool} {d e : Nat → Nat} (hd : ∀ f, f < 8 → d f < 3) (he : ∀ f, f < 8 → e f < 3) : ∀ f, f < 8 → rdD b d e f < 3 := fun f hf => by
  have := hd f hf
  have := he f hf
  unfold rdD
  split
  · omega
  · split
    · omega
    · split
      · omega
      · cases b
        · show e f < 3
          omega
        · show 0 < 3
          omega
theorem v_asHeard {d e : Nat → Nat} (hd : ∀ f, f < 8 → d f < 3) (he : ∀ f, f < 8 → e f < 3) : f_X11_asHeard (eD d) (eD e) = some (nI (nAs d e)) := by
  unfold f_X11_asHeard
  rw [x_as hd he, v_bitCount (asD_lt hd)]
  show some (nI _) = some (nI _)
  congr 2
  exact cK_congr 8 (fun f hf => by unfold asD; rcases lt3 (hd f hf) with h1 | h1 | h1 <;> rcases lt3 (he f hf) with h2 | h2 | h2 <;> simp [h1, h2])
theorem v_otherWay {d e : Nat → Nat} (hd : ∀ f, f < 8 → d f < 3) (he : ∀ f, f < 8 → e f < 3) : f_X11_otherWay (eD d) (eD e) = some (nI (nOt d e)) := by
  unfold f_X11_otherWay
  have e1 : f_X11_turned (eD e) = some (eP (fun f => e f == 2) (fun f => e f == 1)) := v_turned _ _
  rw [e1]
  show cs (f_J6_bitCount_0f7a4 (eD d &&& eP (fun f => e f == 2) (fun f => e f == 1))) _ = _
  rw [x_ot hd he, v_bitCount (otD_lt hd)]
  show some (nI _) = some (nI _)
  congr 2
  exact cK_congr 8 (fun f hf => by unfold otD; rcases lt3 (hd f hf) with h1 | h1 | h1 <;> rcases lt3 (he f hf) with h2 | h2 | h2 <;> simp [h1, h2])
theorem v_unheard {d e : Nat → Nat} (hd : ∀ f, f < 8 → d f < 3) (he : ∀ f, f < 8 → e f < 3) : f_X11_unheard (eD d) (eD e) = some (nI (nFr d e)) := by
  unfold f_X11_unheard
  have e1 : f_X11_factsOf (eD e) = some (eP (fun f => e f == 1 || e f == 2) (fun _ => false)) := v_factsOf _ _
  rw [e1, cs_some, v_bothWays, cs_some, x_fr hd he, v_bitCount (frD_lt hd), cs_some]
  congr 2
  exact cK_congr 8 (fun f hf => by unfold frD; rcases lt3 (hd f hf) with h1 | h1 | h1 <;> rcases lt3 (he f hf) with h2 | h2 | h2 <;> simp [h1, h2])
theorem x_ride0 {d e : Nat → Nat} (hd : ∀ f, f < 8 → d f < 3) (he : ∀ f, f < 8 → e f < 3) : (eD e &&& ((0 : Int32) ^^^ (-1))) ||| eD (frD d e) = eD (rdD false d e) := by
  have e0 : eD e &&& ((0 : Int32) ^^^ (-1)) = eD e := by
    unfold eD
    rw [eP_0, eP_andn]
    exact eP_congr (fun f _ => by simp) (fun f _ => by simp)
  rw [e0]
  unfold eD
  rw [eP_or]
  refine eP_congr (fun f hf => ?_) (fun f hf => ?_) <;> unfold rdD frD <;> rcases lt3 (hd f hf) with h1 | h1 | h1 <;> rcases lt3 (he f hf) with h2 | h2 | h2 <;> simp [h1, h2]
theorem x_ride1 {d e : Nat → Nat} (hd : ∀ f, f < 8 → d f < 3) (he : ∀ f, f < 8 → e f < 3) : (eD e &&& ((eD e &&& eP (fun f => d f == 2) (fun f => d f == 1)) ^^^ (-1))) ||| eD (frD d e) = eD (rdD true d e) := by
  rw [x_ot he hd]
  unfold eD
  rw [eP_andn, eP_or]
  refine eP_congr (fun f hf => ?_) (fun f hf => ?_) <;> unfold rdD frD otD <;> rcases lt3 (hd f hf) with h1 | h1 | h1 <;> rcases lt3 (he f hf) with h2 | h2 | h2 <;> simp [h1, h2]
