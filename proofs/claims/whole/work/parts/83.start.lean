/-! ===== what holds at the law's start ===== -/
theorem st_arr {s : State} {a : Array Value} {ty : FieldType} (h : (Cond.arrayClass ty).before a s = true) : ∃ c : ClassId, ArrOfT s c ty ∧ s.vm.findClass ("[" ++ ty.toString) = some c := by
  obtain ⟨c, k, comp, h1, h2, h3⟩ := Cond.arrayClass_spec h
  exact ⟨c, fun N z => ⟨(fun k h => by cases h), k, h2, comp, h3⟩, h1⟩
theorem st_obj {s : State} {a : Array Value} {C : String} (h : (Cond.arrayOver (.object C)).before a s = true) : ∃ c : ClassId, ArrOfT s c (.object C) ∧ va_RA s c (.object C) := by
  obtain ⟨comp, c, k, h1, h2, h3, h4, h5⟩ := Cond.arrayOver_spec h
  exact ⟨c, fun N z => ⟨(fun k h => by cases h), k, h3, comp, h4⟩, k, comp, h3, h4, h1, h5⟩
theorem st_cls {s : State} {a : Array Value} (hU : ∀ w ∈ wU, w.before a s = true) : ∃ f : Nat → ClassId × (Nat → Nat), ∀ (c : Nat) (q : vw_C), vwCl[c]? = some q → u_Kn s q.1 q.2.1 q.2.2 (f c).1 (f c).2 := by
  obtain ⟨c0, i0, k0⟩ := u_known hU inX0 (hU _ wd_1_137)
  obtain ⟨c1, i1, k1⟩ := u_known hU inX1 (hU _ wd_1_182)
  obtain ⟨c2, i2, k2⟩ := u_known hU inX2 (hU _ wd_1_40)
  obtain ⟨c3, i3, k3⟩ := u_known hU inX3 (hU _ wd_1_162)
  obtain ⟨c4, i4, k4⟩ := u_known hU inX4 (hU _ wd_1_32)
  obtain ⟨c5, i5, k5⟩ := u_known hU inX5 (hU _ wd_1_192)
  obtain ⟨c6, i6, k6⟩ := u_known hU inX6 (hU _ wd_1_212)
  obtain ⟨c7, i7, k7⟩ := u_known hU inX7 (hU _ wd_2_173)
  obtain ⟨c8, i8, k8⟩ := u_known hU inX8 (hU _ wd_1_202)
  obtain ⟨c9, i9, k9⟩ := u_known hU inX9 (hU _ wd_2_159)
  obtain ⟨c10, i10, k10⟩ := u_known hU inX10 (hU _ wd_1_172)
  obtain ⟨c11, i11, k11⟩ := u_known hU inX11 (hU _ wd_1_24)
  obtain ⟨c12, i12, k12⟩ := u_known hU inX12 (hU _ wd_4_211)
  have h0 : ∀ c : Nat, ∃ f : ClassId × (Nat → Nat), ∀ q : vw_C, vwCl[c]? = some q → u_Kn s q.1 q.2.1 q.2.2 f.1 f.2 := by
    intro c
    exact match c with
    | 0 => ⟨(c0, i0), fun q hq => by cases hq; exact k0⟩
    | 1 => ⟨(c1, i1), fun q hq => by cases hq; exact k1⟩
    | 2 => ⟨(c2, i2), fun q hq => by cases hq; exact k2⟩
    | 3 => ⟨(c3, i3), fun q hq => by cases hq; exact k3⟩
    | 4 => ⟨(c4, i4), fun q hq => by cases hq; exact k4⟩
    | 5 => ⟨(c5, i5), fun q hq => by cases hq; exact k5⟩
    | 6 => ⟨(c6, i6), fun q hq => by cases hq; exact k6⟩
    | 7 => ⟨(c7, i7), fun q hq => by cases hq; exact k7⟩
    | 8 => ⟨(c8, i8), fun q hq => by cases hq; exact k8⟩
    | 9 => ⟨(c9, i9), fun q hq => by cases hq; exact k9⟩
    | 10 => ⟨(c10, i10), fun q hq => by cases hq; exact k10⟩
    | 11 => ⟨(c11, i11), fun q hq => by cases hq; exact k11⟩
    | 12 => ⟨(c12, i12), fun q hq => by cases hq; exact k12⟩
    | n + 13 => ⟨(c0, i0), fun q hq => by cases hq⟩
  obtain ⟨f, hf⟩ := Classical.axiomOfChoice h0
  exact ⟨f, hf⟩
section STF
variable {b : Nat} {s : State}
theorem st_nest (hts : ∀ w ∈ lw_tbl, w.before #[Value.ref b] s = true) : ∀ q ∈ nestQ, va_Nw (.methodLinkNest q.1 q.2.1 q.2.2.1 q.2.2.2) s := by
  intro q hq
  unfold nestQ at hq
  rcases List.mem_cons.mp hq with rfl | hq
  · exact va_Nw.of rfl (hts _ (tb1 (j := 133) (by decide +kernel)))
  rcases List.mem_cons.mp hq with rfl | hq
  · exact va_Nw.of rfl (hts _ (tb1 (j := 222) (by decide +kernel)))
  rcases List.mem_cons.mp hq with rfl | hq
  · exact va_Nw.of rfl (hts _ (tb2 (j := 89) (by decide +kernel)))
  rcases List.mem_cons.mp hq with rfl | hq
  · exact va_Nw.of rfl (hts _ (tb2 (j := 160) (by decide +kernel)))
  rcases List.mem_cons.mp hq with rfl | hq
  · exact va_Nw.of rfl (hts _ (tb2 (j := 174) (by decide +kernel)))
  rcases List.mem_cons.mp hq with rfl | hq
  · exact va_Nw.of rfl (hts _ (tb3 (j := 52) (by decide +kernel)))
  rcases List.mem_cons.mp hq with rfl | hq
  · exact va_Nw.of rfl (hts _ (tb3 (j := 53) (by decide +kernel)))
  rcases List.mem_cons.mp hq with rfl | hq
  · exact va_Nw.of rfl (hts _ (tb3 (j := 54) (by decide +kernel)))
  rcases List.mem_cons.mp hq with rfl | hq
  · exact va_Nw.of rfl (hts _ (tb3 (j := 100) (by decide +kernel)))
  rcases List.mem_cons.mp hq with rfl | hq
  · exact va_Nw.of rfl (hts _ (tb3 (j := 173) (by decide +kernel)))
  rcases List.mem_cons.mp hq with rfl | hq
  · exact va_Nw.of rfl (hts _ (tb3 (j := 174) (by decide +kernel)))
  rcases List.mem_cons.mp hq with rfl | hq
  · exact va_Nw.of rfl (hts _ (tb3 (j := 175) (by decide +kernel)))
  rcases List.mem_cons.mp hq with rfl | hq
  · exact va_Nw.of rfl (hts _ (tb4 (j := 151) (by decide +kernel)))
  exact absurd hq List.not_mem_nil
theorem st_cast (hts : ∀ w ∈ lw_tbl, w.before #[Value.ref b] s = true) : ∀ q ∈ castQ, va_Nw (.castable q.1 q.2) s := by
  intro q hq
  unfold castQ at hq
  rcases List.mem_cons.mp hq with rfl | hq
  · exact va_Nw.of rfl (hts _ (tb6 (j := 184) (by decide +kernel)))
  rcases List.mem_cons.mp hq with rfl | hq
  · exact va_Nw.of rfl (hts _ (tb6 (j := 185) (by decide +kernel)))
  rcases List.mem_cons.mp hq with rfl | hq
  · exact va_Nw.of rfl (hts _ (tb6 (j := 186) (by decide +kernel)))
  rcases List.mem_cons.mp hq with rfl | hq
  · exact va_Nw.of rfl (hts _ (tb6 (j := 187) (by decide +kernel)))
  rcases List.mem_cons.mp hq with rfl | hq
  · exact va_Nw.of rfl (hts _ (tb6 (j := 188) (by decide +kernel)))
  rcases List.mem_cons.mp hq with rfl | hq
  · exact va_Nw.of rfl (hts _ (tb6 (j := 189) (by decide +kernel)))
  rcases List.mem_cons.mp hq with rfl | hq
  · exact va_Nw.of rfl (hts _ (tb6 (j := 190) (by decide +kernel)))
  rcases List.mem_cons.mp hq with rfl | hq
  · exact va_Nw.of rfl (hts _ (tb6 (j := 191) (by decide +kernel)))
  rcases List.mem_cons.mp hq with rfl | hq
  · exact va_Nw.of rfl (hts _ (tb6 (j := 192) (by decide +kernel)))
  exact absurd hq List.not_mem_nil
theorem st_decl (hts : ∀ w ∈ lw_tbl, w.before #[Value.ref b] s = true) : ∀ q ∈ declQ, va_Nw (.declares q) s := by
  intro q hq
  unfold declQ at hq
  rcases List.mem_cons.mp hq with rfl | hq
  · exact va_Nw.of rfl (hts _ (tb3 (j := 86) (by decide +kernel)))
  rcases List.mem_cons.mp hq with rfl | hq
  · exact va_Nw.of rfl (hts _ (tb4 (j := 82) (by decide +kernel)))
  rcases List.mem_cons.mp hq with rfl | hq
  · exact va_Nw.of rfl (hts _ (tb4 (j := 116) (by decide +kernel)))
  rcases List.mem_cons.mp hq with rfl | hq
  · exact va_Nw.of rfl (hts _ (tb4 (j := 119) (by decide +kernel)))
  rcases List.mem_cons.mp hq with rfl | hq
  · exact va_Nw.of rfl (hts _ (tb4 (j := 128) (by decide +kernel)))
  exact absurd hq List.not_mem_nil
theorem st_nc (hg : ∀ w ∈ flatC (Jvm.Cond.and given_1 narrow_1), w.before #[Value.ref b] s = true) : ∀ q ∈ ncQ, va_Nc q.1 q.2 s := by
  intro q hq
  unfold ncQ at hq
  rcases List.mem_cons.mp hq with rfl | hq
  · exact va_Nc.of (hg _ (by decide +kernel))
  rcases List.mem_cons.mp hq with rfl | hq
  · exact va_Nc.of (hg _ (by decide +kernel))
  rcases List.mem_cons.mp hq with rfl | hq
  · exact va_Nc.of (hg _ (by decide +kernel))
  rcases List.mem_cons.mp hq with rfl | hq
  · exact va_Nc.of (hg _ (by decide +kernel))
  rcases List.mem_cons.mp hq with rfl | hq
  · exact va_Nc.of (hg _ (by decide +kernel))
  rcases List.mem_cons.mp hq with rfl | hq
  · exact va_Nc.of (hg _ (by decide +kernel))
  rcases List.mem_cons.mp hq with rfl | hq
  · exact va_Nc.of (hg _ (by decide +kernel))
  rcases List.mem_cons.mp hq with rfl | hq
  · exact va_Nc.of (hg _ (by decide +kernel))
  rcases List.mem_cons.mp hq with rfl | hq
  · exact va_Nc.of (hg _ (by decide +kernel))
  rcases List.mem_cons.mp hq with rfl | hq
  · exact va_Nc.of (hg _ (by decide +kernel))
  rcases List.mem_cons.mp hq with rfl | hq
  · exact va_Nc.of (hg _ (by decide +kernel))
  rcases List.mem_cons.mp hq with rfl | hq
  · exact va_Nc.of (hg _ (by decide +kernel))
  rcases List.mem_cons.mp hq with rfl | hq
  · exact va_Nc.of (hg _ (by decide +kernel))
  rcases List.mem_cons.mp hq with rfl | hq
  · exact va_Nc.of (hg _ (by decide +kernel))
  rcases List.mem_cons.mp hq with rfl | hq
  · exact va_Nc.of (hg _ (by decide +kernel))
  rcases List.mem_cons.mp hq with rfl | hq
  · exact va_Nc.of (hg _ (by decide +kernel))
  rcases List.mem_cons.mp hq with rfl | hq
  · exact va_Nc.of (hg _ (by decide +kernel))
  rcases List.mem_cons.mp hq with rfl | hq
  · exact va_Nc.of (hg _ (by decide +kernel))
  rcases List.mem_cons.mp hq with rfl | hq
  · exact va_Nc.of (hg _ (by decide +kernel))
  rcases List.mem_cons.mp hq with rfl | hq
  · exact va_Nc.of (hg _ (by decide +kernel))
  rcases List.mem_cons.mp hq with rfl | hq
  · exact va_Nc.of (hg _ (by decide +kernel))
  rcases List.mem_cons.mp hq with rfl | hq
  · exact va_Nc.of (hg _ (by decide +kernel))
  rcases List.mem_cons.mp hq with rfl | hq
  · exact va_Nc.of (hg _ (by decide +kernel))
  rcases List.mem_cons.mp hq with rfl | hq
  · exact va_Nc.of (hg _ (by decide +kernel))
  rcases List.mem_cons.mp hq with rfl | hq
  · exact va_Nc.of (hg _ (by decide +kernel))
  rcases List.mem_cons.mp hq with rfl | hq
  · exact va_Nc.of (hg _ (by decide +kernel))
  rcases List.mem_cons.mp hq with rfl | hq
  · exact va_Nc.of (hg _ (by decide +kernel))
  rcases List.mem_cons.mp hq with rfl | hq
  · exact va_Nc.of (hg _ (by decide +kernel))
  rcases List.mem_cons.mp hq with rfl | hq
  · exact va_Nc.of (hg _ (by decide +kernel))
  rcases List.mem_cons.mp hq with rfl | hq
  · exact va_Nc.of (hg _ (by decide +kernel))
  rcases List.mem_cons.mp hq with rfl | hq
  · exact va_Nc.of (hg _ (by decide +kernel))
  rcases List.mem_cons.mp hq with rfl | hq
  · exact va_Nc.of (hg _ (by decide +kernel))
  rcases List.mem_cons.mp hq with rfl | hq
  · exact va_Nc.of (hg _ (by decide +kernel))
  exact absurd hq List.not_mem_nil
def tmS (i : Nat) : Term := .string RX4 ([58, 60, 69, 71].getD i 0)
theorem st_str (hg : ∀ w ∈ flatC (Jvm.Cond.and given_1 narrow_1), w.before #[Value.ref b] s = true) : ∃ adK adV : Nat → Nat, vk_S 4 strLen strByt adK adV (fun q => s.heap.size ≤ q) s s.heap ∧ ∀ i : Nat, i < 4 → (tmS i).eval #[Value.ref b] s none [] s = some (.ref (adK i)) := by
  refine vk_Sof (tm := tmS) ?_ ?_ ?_ ?_ ?_ ?_ ?_ (fun a h => Nat.not_le.mpr h)
  · exact fun i hi => match i, hi with
    | 0, _ => by decide
    | 1, _ => by decide
    | 2, _ => by decide
    | 3, _ => by decide
    | n + 4, h => absurd h (by omega)
  · exact fun i hi => match i, hi with
    | 0, _ => (hg _ (by decide +kernel))
    | 1, _ => (hg _ (by decide +kernel))
    | 2, _ => (hg _ (by decide +kernel))
    | 3, _ => (hg _ (by decide +kernel))
    | n + 4, h => absurd h (by omega)
  · exact fun i hi => match i, hi with
    | 0, _ => (hg _ (by decide +kernel))
    | 1, _ => (hg _ (by decide +kernel))
    | 2, _ => (hg _ (by decide +kernel))
    | 3, _ => (hg _ (by decide +kernel))
    | n + 4, h => absurd h (by omega)
  · exact fun i hi => match i, hi with
    | 0, _ => (hg _ (by decide +kernel))
    | 1, _ => (hg _ (by decide +kernel))
    | 2, _ => (hg _ (by decide +kernel))
    | 3, _ => (hg _ (by decide +kernel))
    | n + 4, h => absurd h (by omega)
  · exact fun i hi => match i, hi with
    | 0, _ => (hg _ (by decide +kernel))
    | 1, _ => (hg _ (by decide +kernel))
    | 2, _ => (hg _ (by decide +kernel))
    | 3, _ => (hg _ (by decide +kernel))
    | n + 4, h => absurd h (by omega)
  · exact fun i hi => match i, hi with
    | 0, _ => fun j hj => match j, hj with
      | 0, _ => (hg _ (by decide +kernel))
      | 1, _ => (hg _ (by decide +kernel))
      | 2, _ => (hg _ (by decide +kernel))
      | n + 3, h => absurd h (show ¬ n + 3 < 3 by omega)
    | 1, _ => fun j hj => match j, hj with
      | 0, _ => (hg _ (by decide +kernel))
      | 1, _ => (hg _ (by decide +kernel))
      | 2, _ => (hg _ (by decide +kernel))
      | 3, _ => (hg _ (by decide +kernel))
      | 4, _ => (hg _ (by decide +kernel))
      | 5, _ => (hg _ (by decide +kernel))
      | 6, _ => (hg _ (by decide +kernel))
      | 7, _ => (hg _ (by decide +kernel))
      | 8, _ => (hg _ (by decide +kernel))
      | n + 9, h => absurd h (show ¬ n + 9 < 9 by omega)
    | 2, _ => fun j hj => match j, hj with
      | 0, _ => (hg _ (by decide +kernel))
      | 1, _ => (hg _ (by decide +kernel))
      | 2, _ => (hg _ (by decide +kernel))
      | n + 3, h => absurd h (show ¬ n + 3 < 3 by omega)
    | 3, _ => fun j hj => match j, hj with
      | 0, _ => (hg _ (by decide +kernel))
      | 1, _ => (hg _ (by decide +kernel))
      | 2, _ => (hg _ (by decide +kernel))
      | 3, _ => (hg _ (by decide +kernel))
      | 4, _ => (hg _ (by decide +kernel))
      | 5, _ => (hg _ (by decide +kernel))
      | 6, _ => (hg _ (by decide +kernel))
      | n + 7, h => absurd h (show ¬ n + 7 < 7 by omega)
    | n + 4, h => absurd h (by omega)
  · exact fun i j hi hj hij => match i, j, hi, hj, hij with
    | 0, 0, _, _, h => absurd rfl h
    | 0, 1, _, _, h => Or.inl (hg _ (by decide +kernel))
    | 0, 2, _, _, h => Or.inl (hg _ (by decide +kernel))
    | 0, 3, _, _, h => Or.inl (hg _ (by decide +kernel))
    | 1, 0, _, _, h => Or.inr (hg _ (by decide +kernel))
    | 1, 1, _, _, h => absurd rfl h
    | 1, 2, _, _, h => Or.inl (hg _ (by decide +kernel))
    | 1, 3, _, _, h => Or.inl (hg _ (by decide +kernel))
    | 2, 0, _, _, h => Or.inr (hg _ (by decide +kernel))
    | 2, 1, _, _, h => Or.inr (hg _ (by decide +kernel))
    | 2, 2, _, _, h => absurd rfl h
    | 2, 3, _, _, h => Or.inl (hg _ (by decide +kernel))
    | 3, 0, _, _, h => Or.inr (hg _ (by decide +kernel))
    | 3, 1, _, _, h => Or.inr (hg _ (by decide +kernel))
    | 3, 2, _, _, h => Or.inr (hg _ (by decide +kernel))
    | 3, 3, _, _, h => absurd rfl h
    | n + 4, _, h, _, _ => absurd h (by omega)
    | _, n + 4, _, h, _ => absurd h (by omega)
theorem st_ro (hts : ∀ w ∈ lw_tbl, w.before #[Value.ref b] s = true) (hg : ∀ w ∈ flatC (Jvm.Cond.and given_1 narrow_1), w.before #[Value.ref b] s = true) : va_Z "java/lang/String" "COMPACT_STRINGS" "Z" (.int 1) (fun q => s.heap.size ≤ q) s s.heap ∧ va_Zq "jdk/internal/util/Preconditions" "SIOOBE_FORMATTER" "Ljava/util/function/BiFunction;" (fun q => s.heap.size ≤ q) s s.heap :=
  ⟨va_Zof (hts _ (tb1 (j := 56) (by decide +kernel))) (hts _ (tb1 (j := 4) (by decide +kernel))) (va_eqi (hg _ (by decide +kernel))) (fun a h => Nat.not_le.mpr h), va_Zqof (hts _ (tb1 (j := 75) (by decide +kernel))) (hts _ (tb1 (j := 7) (by decide +kernel))) (hg _ (by decide +kernel)) (fun a h => Nat.not_le.mpr h)⟩
theorem st_all (hts : ∀ w ∈ lw_tbl, w.before #[Value.ref b] s = true) (hg : ∀ w ∈ flatC (Jvm.Cond.and given_1 narrow_1), w.before #[Value.ref b] s = true) : ∃ E : En, EnOk E s ∧ RoOK E [] (fun q => s.heap.size ≤ q) s s.heap := by
  obtain ⟨f, hf⟩ := st_cls (a := #[Value.ref b]) (s := s) (fun w hw => hts w (List.mem_filter.mp hw).1)
  obtain ⟨cI, a1, a2⟩ := st_arr (ty := .int) (hts _ (tb1 (j := 129) (by decide +kernel)))
  obtain ⟨cB, b1, b2⟩ := st_arr (ty := .byte) (hts _ (tb1 (j := 130) (by decide +kernel)))
  have hR := (hts (Cond.arrayOver (.object RX6)) (tb1 (j := 38) (by decide +kernel)))
  have hS := (hts (Cond.arrayOver (.object RX7)) (tb2 (j := 157) (by decide +kernel)))
  obtain ⟨cR, r1, r2⟩ := st_obj (C := RX6) hR
  obtain ⟨cS, s1, s2⟩ := st_obj (C := RX7) hS
  obtain ⟨adK, adV, hS1, hS2⟩ := st_str hg
  refine ⟨((fun c => (f c).1, fun c => (f c).2), cI, cB, cR, cS, adK, adV), ⟨⟨hf, ?_⟩, st_nest hts, st_cast hts, st_nc hg, va_AO.of (A := #[Value.ref b]) hR, va_AO.of (A := #[Value.ref b]) hS, ⟨vk_R.of (hts _ (tb1 (j := 41) (by decide +kernel))) (hS2 0 (by decide)), vk_R.of (hts _ (tb1 (j := 42) (by decide +kernel))) (hS2 1 (by decide)), vk_R.of (hts _ (tb1 (j := 131) (by decide +kernel))) (hS2 2 (by decide)), vk_R.of (hts _ (tb1 (j := 132) (by decide +kernel))) (hS2 3 (by decide))⟩, st_decl hts⟩, ⟨fun k q hk => absurd (List.mem_of_getElem? hk) List.not_mem_nil, fun k q hk => absurd (List.mem_of_getElem? hk) List.not_mem_nil, hS1, st_ro hts hg⟩⟩
  exact fun k q hk => match k, hk with
    | 0, hk => by cases hk; exact ⟨a1, a2⟩
    | 1, hk => by cases hk; exact ⟨b1, b2⟩
    | 2, hk => by cases hk; exact ⟨r1, r2⟩
    | 3, hk => by cases hk; exact ⟨s1, s2⟩
    | n + 4, hk => by cases hk
end STF
