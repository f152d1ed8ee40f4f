theorem assoc6 (a r m : va_W) : a ++ ([] ++ (r ++ m)) = (a ++ r) ++ (m ++ []) := by simp only [List.nil_append, List.append_nil, List.append_assoc]
theorem assoc7 (a : va_W) (c : Nat × va_E) : a ++ ([c] ++ []) = ([] ++ (a ++ [])) ++ [c] := by simp only [List.nil_append, List.append_nil]
theorem law_body {X : Cx} {b L : Nat} {xs : Nat → Int32} (hX : Ok X code 4 RL) (hL : Lw X b L xs) : G X 4 0 0 0 [(0, .ref b)] [] [] := by
  obtain ⟨T, hw, R0, k0⟩ := begin_ok
  refine gl_new (C := RX11) (T := TX11) (N := 6) (ci := 11) (fs := [.null, .null, .int 0, .null, .null, .null]) hX hL.1 inX11 tyX11 tyX11_ok wd_1_23 wd_1_24 wd_1_1 rfl dfX11 (by decide) (by decide) dL_0 (fun a => ?_)
  refine g_dup hX rfl dL_3 ?_
  refine g_eqW (ws2 := [] ++ ([(a, .inr (11, [.null, .null, .int 0, .null, .null, .null]))] ++ [])) rfl (gl_callI (pre := []) (mid := [(a, .inr (11, [.null, .null, .int 0, .null, .null, .null]))]) (post := []) [] hX hL.1 kwl_X11_init (c_X11_init hw) (fun _ h => absurd h List.not_mem_nil) (by decide) (by decide) (by decide) rfl rfl (Nat.le_of_ble_eq_true rfl) dL_4 (fun rv ws2 hp => ?_))
  obtain ⟨rfl, ad, Q, rfl, rfl⟩ := hp
  refine g_astoren hX [(1, .ref (ad 10)), (0, .ref b)] rfl (by decide) rfl dL_7 ?_
  refine gl_new (C := RX12) (T := TX12) (N := 29) (ci := 12) (fs := [.null, .null, .null, .null, .null, .int 0, .int 0, .null, .int 0, .int 0, .int 0, .int 0, .int 0, .int 0, .int 0, .int 0, .int 0, .int 0, .int 0, .null, .null, .null, .null, .null, .null, .int 0, .int 0, .int 0, .int 0]) hX hL.1 inX12 tyX12 tyX12_ok wd_4_210 wd_4_211 wd_1_19 rfl dfX12 (by decide) (by decide) dL_8 (fun q => ?_)
  refine g_dup hX rfl dL_11 ?_
  refine g_eqW (assoc7 _ _) (gl_callI (pre := xW X.E ad Q .null (X00 T) ++ roL Q RD0) (mid := [(q, .inr (12, [.null, .null, .null, .null, .null, .int 0, .int 0, .null, .int 0, .int 0, .int 0, .int 0, .int 0, .int 0, .int 0, .int 0, .int 0, .int 0, .int 0, .null, .null, .null, .null, .null, .null, .int 0, .int 0, .int 0, .int 0]))]) (post := []) [] hX hL.1 kwl_X12_init c_X12_init (fun _ h => absurd h List.not_mem_nil) (by decide) (by decide) (by decide) rfl rfl (Nat.le_of_ble_eq_true rfl) dL_12 (fun rv ws2 hp => ?_))
  obtain ⟨rfl, md, rfl, rfl⟩ := hp
  refine g_eqW (assoc6 _ _ _) ?_
  refine g_astoren hX [(2, .ref (md 0)), (1, .ref (ad 10)), (0, .ref b)] rfl (by decide) rfl dL_15 ?_
  refine g_iconst hX (v := nI 0) (by decide) dL_16 ?_
  refine g_istoren hX (lvL b (ad 10) (md 0) (6 * 0)) rfl (by decide) rfl dL_17 ?_
  exact law_loop hw hX hL 513 0 _ _ Q .null _ _ [] _ RD0 rfl (by decide) (by decide) R0 (fun _ h => h) (Or.inl ⟨rfl, rfl, k0⟩)
-- ===== YOUR PART BEGINS =====
/-- from the entry, for every script of at most 3072 ints, the law comes to its end with true -/
theorem whole_start {p : Program} {e : Env} {s : State} {m : MethodId} {below : List Frame} {meth : Method} {c : Code} (l : Launch) (hflags : l.flags = flags0) {b L : Nat} {xs : Nat → Int32} (hL : L ≤ 3072) (C0 : lw_At p s m meth c b L xs) : W p l e room_1 s m #[Value.ref b] below meth c s.heap [] 0 0 (lw_Z below #[Value.ref b] s) (entryFrame m ([Value.ref b] : List Value).toArray 4) := by
  obtain ⟨hx, hb, hr, hml, hown, hts, hX, hbl, hlk, hgv⟩ := C0
  obtain ⟨E, hE, hRo⟩ := st_all hts (flat_of_before _ hgv)
  have hl := lv_entry ([.ref b] : List Value) (n := 4) (Nat.le_of_ble_eq_true rfl)
  rw [lg_entry_eq]
  exact law_body (X := (p, l, e, room_1, s, m, #[Value.ref b], below, meth, c, (fun q => s.heap.size ≤ q), lw_Z below #[Value.ref b] s, E, [])) ⟨hx, hb, hml, hown, fun w hw => hts w (List.mem_filter.mp hw).1, hE, fun _ h => h, hRo⟩ ⟨rfl, hbl, Nat.not_le.mpr hbl, hX, rfl, rfl, rfl, hr, hlk, hL⟩ s.heap [] _ (fun k q hk => absurd (List.mem_of_getElem? hk) List.not_mem_nil) ⟨fun i j p q hi _ _ => absurd (List.mem_of_getElem? hi) List.not_mem_nil, fun k q hk => absurd (List.mem_of_getElem? hk) List.not_mem_nil⟩ va_S.rf hl
-- ===== YOUR PART ENDS =====
