def txF (i : Nat) : Nat → Int32 := fun j => (strByt.getD i []).getD j 0
theorem dfX0 : ∀ j, j < 3 → defaultValue (tyX0 j) = vp_V [.int 0, .int 0, .int 0] j := fun j hj => match j, hj with
  | 0, _ => rfl
  | 1, _ => rfl
  | 2, _ => rfl
  | n + 3, h => absurd h (by omega)
theorem dfX1 : ∀ j, j < 3 → defaultValue (tyX1 j) = vp_V [.int 0, .int 0, .int 0] j := fun j hj => match j, hj with
  | 0, _ => rfl
  | 1, _ => rfl
  | 2, _ => rfl
  | n + 3, h => absurd h (by omega)
theorem dfX2 : ∀ j, j < 10 → defaultValue (tyX2 j) = vp_V [.null, .null, .int 0, .null, .int 0, .int 0, .int 0, .int 0, .int 0, .int 0] j := fun j hj => match j, hj with
  | 0, _ => rfl
  | 1, _ => rfl
  | 2, _ => rfl
  | 3, _ => rfl
  | 4, _ => rfl
  | 5, _ => rfl
  | 6, _ => rfl
  | 7, _ => rfl
  | 8, _ => rfl
  | 9, _ => rfl
  | n + 10, h => absurd h (by omega)
theorem dfX3 : ∀ j, j < 3 → defaultValue (tyX3 j) = vp_V [.int 0, .int 0, .int 0] j := fun j hj => match j, hj with
  | 0, _ => rfl
  | 1, _ => rfl
  | 2, _ => rfl
  | n + 3, h => absurd h (by omega)
theorem dfX4 : ∀ j, j < 16 → defaultValue (tyX4 j) = vp_V [.int 0, .int 0, .int 0, .int 0, .int 0, .int 0, .int 0, .null, .null, .int 0, .null, .int 0, .null, .null, .null, .null] j := fun j hj => match j, hj with
  | 0, _ => rfl
  | 1, _ => rfl
  | 2, _ => rfl
  | 3, _ => rfl
  | 4, _ => rfl
  | 5, _ => rfl
  | 6, _ => rfl
  | 7, _ => rfl
  | 8, _ => rfl
  | 9, _ => rfl
  | 10, _ => rfl
  | 11, _ => rfl
  | 12, _ => rfl
  | 13, _ => rfl
  | 14, _ => rfl
  | 15, _ => rfl
  | n + 16, h => absurd h (by omega)
theorem dfX5 : ∀ j, j < 3 → defaultValue (tyX5 j) = vp_V [.int 0, .int 0, .int 0] j := fun j hj => match j, hj with
  | 0, _ => rfl
  | 1, _ => rfl
  | 2, _ => rfl
  | n + 3, h => absurd h (by omega)
theorem dfX6 : ∀ j, j < 3 → defaultValue (tyX6 j) = vp_V [.int 0, .int 0, .int 0] j := fun j hj => match j, hj with
  | 0, _ => rfl
  | 1, _ => rfl
  | 2, _ => rfl
  | n + 3, h => absurd h (by omega)
theorem dfX7 : ∀ j, j < 3 → defaultValue (tyX7 j) = vp_V [.null, .int 0, .int 0] j := fun j hj => match j, hj with
  | 0, _ => rfl
  | 1, _ => rfl
  | 2, _ => rfl
  | n + 3, h => absurd h (by omega)
theorem dfX8 : ∀ j, j < 3 → defaultValue (tyX8 j) = vp_V [.int 0, .int 0, .int 0] j := fun j hj => match j, hj with
  | 0, _ => rfl
  | 1, _ => rfl
  | 2, _ => rfl
  | n + 3, h => absurd h (by omega)
theorem dfX9 : ∀ j, j < 2 → defaultValue (tyX9 j) = vp_V [.null, .int 0] j := fun j hj => match j, hj with
  | 0, _ => rfl
  | 1, _ => rfl
  | n + 2, h => absurd h (by omega)
theorem dfX10 : ∀ j, j < 3 → defaultValue (tyX10 j) = vp_V [.int 0, .int 0, .int 0] j := fun j hj => match j, hj with
  | 0, _ => rfl
  | 1, _ => rfl
  | 2, _ => rfl
  | n + 3, h => absurd h (by omega)
theorem dfX11 : ∀ j, j < 6 → defaultValue (tyX11 j) = vp_V [.null, .null, .int 0, .null, .null, .null] j := fun j hj => match j, hj with
  | 0, _ => rfl
  | 1, _ => rfl
  | 2, _ => rfl
  | 3, _ => rfl
  | 4, _ => rfl
  | 5, _ => rfl
  | n + 6, h => absurd h (by omega)
theorem dfX12 : ∀ j, j < 29 → defaultValue (tyX12 j) = vp_V [.null, .null, .null, .null, .null, .int 0, .int 0, .null, .int 0, .int 0, .int 0, .int 0, .int 0, .int 0, .int 0, .int 0, .int 0, .int 0, .int 0, .null, .null, .null, .null, .null, .null, .int 0, .int 0, .int 0, .int 0] j := fun j hj => match j, hj with
  | 0, _ => rfl
  | 1, _ => rfl
  | 2, _ => rfl
  | 3, _ => rfl
  | 4, _ => rfl
  | 5, _ => rfl
  | 6, _ => rfl
  | 7, _ => rfl
  | 8, _ => rfl
  | 9, _ => rfl
  | 10, _ => rfl
  | 11, _ => rfl
  | 12, _ => rfl
  | 13, _ => rfl
  | 14, _ => rfl
  | 15, _ => rfl
  | 16, _ => rfl
  | 17, _ => rfl
  | 18, _ => rfl
  | 19, _ => rfl
  | 20, _ => rfl
  | 21, _ => rfl
  | 22, _ => rfl
  | 23, _ => rfl
  | 24, _ => rfl
  | 25, _ => rfl
  | 26, _ => rfl
  | 27, _ => rfl
  | 28, _ => rfl
  | n + 29, h => absurd h (by omega)
set_option maxRecDepth 100000 in
set_option maxHeartbeats 8000000 in
theorem c_X9_init {l : Launch} {E : En} {a : Nat} : CP l E yX9_init cX9_init 1 none 1 1 40 [] [.ref a] [(a, .inr (9, [.null, .int 0]))] (fun rv w => rv = none ∧ ∃ q1 : Nat, w = [(a, .inr (9, [.ref q1, .int 0])), (q1, .inl (E.cI, 40, .inl (fun _ => 0)))]) :=
  CP.of (lv := [(0, .ref a)]) (by decide +kernel) (Nat.le_of_ble_eq_true rfl) rfl (fun X hl hE hro hX hq hn => by
  subst hl; subst hE
  refine g_aloadn hX 0 rfl rfl dX9_init_0 ?_
  refine g_objI hX hq wd_2_163 (by decide) (Nat.le_of_ble_eq_true rfl) dX9_init_1 ?_
  refine g_aloadn hX 0 rfl rfl dX9_init_4 ?_
  refine g_bipush hX (v := 40) (by decide) dX9_init_5 ?_
  refine g_newI hX hq wd_1_129 (N := 40) (by decide) (by decide) (Nat.le_of_ble_eq_true rfl) (by decide) (by decide) dX9_init_7 (fun q1 => ?_)
  refine g_eqW (ws2 := [(a, .inr (9, [.null, .int 0])), (q1, .inl (X.E.cI, 40, .inl (fun _ => 0)))]) rfl ?_
  refine g_putF (C := RX9) (T := TX9) (N := 2) (ty := (.array .int)) hX hn inX9 tyX9 tyX9_ok nmX9 0 rfl rfl 0 (by decide) wd_2_164 (fun _ h => h) rfl rfl (by decide +kernel) rfl rfl (Nat.le_of_ble_eq_true rfl) [(a, .inr (9, [.ref q1, .int 0])), (q1, .inl (X.E.cI, 40, .inl (fun _ => 0)))] rfl dX9_init_9 ?_
  refine g_aloadn hX 0 rfl rfl dX9_init_12 ?_
  refine g_iconst hX (v := 0) (by decide) dX9_init_13 ?_
  refine g_put (C := RX9) (T := TX9) (N := 2) (ty := .int) hX inX9 tyX9 tyX9_ok nmX9 0 rfl rfl 1 (by decide) wd_2_166 (fun _ h => h) rfl (by decide +kernel) rfl rfl (Nat.le_of_ble_eq_true rfl) [(a, .inr (9, [.ref q1, .int 0])), (q1, .inl (X.E.cI, 40, .inl (fun _ => 0)))] rfl dX9_init_14 ?_
  exact g_vret hX hq (by decide) (by decide) ⟨rfl, _, rfl⟩ dX9_init_17)
set_option maxRecDepth 100000 in
set_option maxHeartbeats 8000000 in
theorem c_X7_init {l : Launch} {E : En} {a : Nat} : CP l E yX7_init cX7_init 1 none 1 1 40 [] [.ref a] [(a, .inr (7, [.null, .int 0, .int 0]))] (fun rv w => rv = none ∧ ∃ q1 : Nat, w = [(a, .inr (7, [.ref q1, .int 0, .int 0])), (q1, .inl (E.cI, 40, .inl (fun _ => 0)))]) :=
  CP.of (lv := [(0, .ref a)]) (by decide +kernel) (Nat.le_of_ble_eq_true rfl) rfl (fun X hl hE hro hX hq hn => by
  subst hl; subst hE
  refine g_aloadn hX 0 rfl rfl dX7_init_0 ?_
  refine g_objI hX hq wd_2_177 (by decide) (Nat.le_of_ble_eq_true rfl) dX7_init_1 ?_
  refine g_aloadn hX 0 rfl rfl dX7_init_4 ?_
  refine g_bipush hX (v := 40) (by decide) dX7_init_5 ?_
  refine g_newI hX hq wd_1_129 (N := 40) (by decide) (by decide) (Nat.le_of_ble_eq_true rfl) (by decide) (by decide) dX7_init_7 (fun q1 => ?_)
  refine g_eqW (ws2 := [(a, .inr (7, [.null, .int 0, .int 0])), (q1, .inl (X.E.cI, 40, .inl (fun _ => 0)))]) rfl ?_
  refine g_putF (C := RX7) (T := TX7) (N := 3) (ty := (.array .int)) hX hn inX7 tyX7 tyX7_ok nmX7 0 rfl rfl 0 (by decide) wd_2_178 (fun _ h => h) rfl rfl (by decide +kernel) rfl rfl (Nat.le_of_ble_eq_true rfl) [(a, .inr (7, [.ref q1, .int 0, .int 0])), (q1, .inl (X.E.cI, 40, .inl (fun _ => 0)))] rfl dX7_init_9 ?_
  refine g_aloadn hX 0 rfl rfl dX7_init_12 ?_
  refine g_iconst hX (v := 0) (by decide) dX7_init_13 ?_
  refine g_put (C := RX7) (T := TX7) (N := 3) (ty := .int) hX inX7 tyX7 tyX7_ok nmX7 0 rfl rfl 1 (by decide) wd_2_181 (fun _ h => h) rfl (by decide +kernel) rfl rfl (Nat.le_of_ble_eq_true rfl) [(a, .inr (7, [.ref q1, .int 0, .int 0])), (q1, .inl (X.E.cI, 40, .inl (fun _ => 0)))] rfl dX7_init_14 ?_
  refine g_aloadn hX 0 rfl rfl dX7_init_17 ?_
  refine g_iconst hX (v := 0) (by decide) dX7_init_18 ?_
  refine g_put (C := RX7) (T := TX7) (N := 3) (ty := .int) hX inX7 tyX7 tyX7_ok nmX7 0 rfl rfl 2 (by decide) wd_2_183 (fun _ h => h) rfl (by decide +kernel) rfl rfl (Nat.le_of_ble_eq_true rfl) [(a, .inr (7, [.ref q1, .int 0, .int 0])), (q1, .inl (X.E.cI, 40, .inl (fun _ => 0)))] rfl dX7_init_19 ?_
  exact g_vret hX hq (by decide) (by decide) ⟨rfl, _, rfl⟩ dX7_init_22)
set_option maxRecDepth 100000 in
set_option maxHeartbeats 8000000 in
theorem c_R0_X6_init {l : Launch} {E : En} {a : Nat} {a1 a2 a3 : Int32} : CP l E yX6_init cX6_init 4 none 1 0 0 [] [.ref a, .int a1, .int a2, .int a3] [(a, .inr (0, [.int 0, .int 0, .int 0]))] (fun rv w => rv = none ∧ w = [(a, .inr (0, [.int a1, .int a2, .int a3]))]) :=
  CP.of (lv := [(0, .ref a), (1, .int a1), (2, .int a2), (3, .int a3)]) (by decide +kernel) (Nat.le_of_ble_eq_true rfl) rfl (fun X hl hE hro hX hq hn => by
  subst hl; subst hE
  refine g_aloadn hX 0 rfl rfl dX6_init_0 ?_
  refine g_objI hX hq wd_1_144 (by decide) (Nat.le_of_ble_eq_true rfl) dX6_init_1 ?_
  refine g_aloadn hX 0 rfl rfl dX6_init_4 ?_
  refine g_iloadn hX 1 rfl rfl dX6_init_5 ?_
  refine g_putF (C := RX0) (T := TX0) (N := 3) (ty := .int) hX hn inX0 tyX0 tyX0_ok nmX0 0 rfl rfl 0 (by decide) wd_1_145 (fun _ h => h) rfl rfl (by decide +kernel) rfl rfl (Nat.le_of_ble_eq_true rfl) [(a, .inr (0, [.int a1, .int 0, .int 0]))] rfl dX6_init_6 ?_
  refine g_aloadn hX 0 rfl rfl dX6_init_9 ?_
  refine g_iloadn hX 2 rfl rfl dX6_init_10 ?_
  refine g_putF (C := RX0) (T := TX0) (N := 3) (ty := .int) hX hn inX0 tyX0 tyX0_ok nmX0 0 rfl rfl 1 (by decide) wd_1_147 (fun _ h => h) rfl rfl (by decide +kernel) rfl rfl (Nat.le_of_ble_eq_true rfl) [(a, .inr (0, [.int a1, .int a2, .int 0]))] rfl dX6_init_11 ?_
  refine g_aloadn hX 0 rfl rfl dX6_init_14 ?_
  refine g_iloadn hX 3 rfl rfl dX6_init_15 ?_
  refine g_putF (C := RX0) (T := TX0) (N := 3) (ty := .int) hX hn inX0 tyX0 tyX0_ok nmX0 0 rfl rfl 2 (by decide) wd_1_151 (fun _ h => h) rfl rfl (by decide +kernel) rfl rfl (Nat.le_of_ble_eq_true rfl) [(a, .inr (0, [.int a1, .int a2, .int a3]))] rfl dX6_init_16 ?_
  exact g_vret hX hq (by decide) (by decide) ⟨rfl, rfl⟩ dX6_init_19)
theorem kwi_RX0_X6_init : KwI RX0 1 yX6_init cX6_init 4 3 := ⟨wd_1_141, wd_1_142, wd_1_9, wd_1_143, rfl, ⟨by decide +kernel, by decide +kernel, by decide +kernel⟩, by decide⟩
set_option maxRecDepth 100000 in
set_option maxHeartbeats 8000000 in
theorem c_R0_X0_init {l : Launch} {E : En} {a : Nat} {a1 a2 a3 : Int32} : CP l E yX0_init cX0_init 4 none 2 0 0 [] [.ref a, .int a1, .int a2, .int a3] [(a, .inr (0, [.int 0, .int 0, .int 0]))] (fun rv w => rv = none ∧ w = [(a, .inr (0, [.int a1, .int a2, .int a3]))]) :=
  CP.of (lv := [(0, .ref a), (1, .int a1), (2, .int a2), (3, .int a3)]) (by decide +kernel) (Nat.le_of_ble_eq_true rfl) rfl (fun X hl hE hro hX hq hn => by
  subst hl; subst hE
  refine g_aloadn hX 0 rfl rfl dX0_init_0 ?_
  refine g_iloadn hX 1 rfl rfl dX0_init_1 ?_
  refine g_iloadn hX 2 rfl rfl dX0_init_2 ?_
  refine g_iloadn hX 3 rfl rfl dX0_init_3 ?_
  refine g_callI (pre := []) (mid := [(a, .inr (0, [.int 0, .int 0, .int 0]))]) (post := []) [.int a1, .int a2, .int a3] hX hq kwi_RX0_X6_init (c_R0_X6_init (a := a) (a1 := a1) (a2 := a2) (a3 := a3)) (fun _ h => absurd h List.not_mem_nil) (by decide) (by decide) (by decide) rfl rfl (Nat.le_of_ble_eq_true rfl) dX0_init_4 (fun rv ws2 hp => ?_)
  obtain ⟨rfl, rfl⟩ := hp
  refine g_eqW (ws2 := [(a, .inr (0, [.int a1, .int a2, .int a3]))]) rfl ?_
  exact g_vret hX hq (by decide) (by decide) ⟨rfl, rfl⟩ dX0_init_7)
set_option maxRecDepth 100000 in
set_option maxHeartbeats 8000000 in
theorem c_R1_X6_init {l : Launch} {E : En} {a : Nat} {a1 a2 a3 : Int32} : CP l E yX6_init cX6_init 4 none 1 0 0 [] [.ref a, .int a1, .int a2, .int a3] [(a, .inr (1, [.int 0, .int 0, .int 0]))] (fun rv w => rv = none ∧ w = [(a, .inr (1, [.int a1, .int a2, .int a3]))]) :=
  CP.of (lv := [(0, .ref a), (1, .int a1), (2, .int a2), (3, .int a3)]) (by decide +kernel) (Nat.le_of_ble_eq_true rfl) rfl (fun X hl hE hro hX hq hn => by
  subst hl; subst hE
  refine g_aloadn hX 0 rfl rfl dX6_init_0 ?_
  refine g_objI hX hq wd_1_144 (by decide) (Nat.le_of_ble_eq_true rfl) dX6_init_1 ?_
  refine g_aloadn hX 0 rfl rfl dX6_init_4 ?_
  refine g_iloadn hX 1 rfl rfl dX6_init_5 ?_
  refine g_putF (C := RX1) (T := TX1) (N := 3) (ty := .int) hX hn inX1 tyX1 tyX1_ok nmX1 0 rfl rfl 0 (by decide) wd_1_145 (fun _ h => h) rfl rfl (by decide +kernel) rfl rfl (Nat.le_of_ble_eq_true rfl) [(a, .inr (1, [.int a1, .int 0, .int 0]))] rfl dX6_init_6 ?_
  refine g_aloadn hX 0 rfl rfl dX6_init_9 ?_
  refine g_iloadn hX 2 rfl rfl dX6_init_10 ?_
  refine g_putF (C := RX1) (T := TX1) (N := 3) (ty := .int) hX hn inX1 tyX1 tyX1_ok nmX1 0 rfl rfl 1 (by decide) wd_1_147 (fun _ h => h) rfl rfl (by decide +kernel) rfl rfl (Nat.le_of_ble_eq_true rfl) [(a, .inr (1, [.int a1, .int a2, .int 0]))] rfl dX6_init_11 ?_
  refine g_aloadn hX 0 rfl rfl dX6_init_14 ?_
  refine g_iloadn hX 3 rfl rfl dX6_init_15 ?_
  refine g_putF (C := RX1) (T := TX1) (N := 3) (ty := .int) hX hn inX1 tyX1 tyX1_ok nmX1 0 rfl rfl 2 (by decide) wd_1_151 (fun _ h => h) rfl rfl (by decide +kernel) rfl rfl (Nat.le_of_ble_eq_true rfl) [(a, .inr (1, [.int a1, .int a2, .int a3]))] rfl dX6_init_16 ?_
  exact g_vret hX hq (by decide) (by decide) ⟨rfl, rfl⟩ dX6_init_19)
set_option maxRecDepth 100000 in
set_option maxHeartbeats 8000000 in
theorem c_R1_X0_init {l : Launch} {E : En} {a : Nat} {a1 a2 a3 : Int32} : CP l E yX0_init cX0_init 4 none 2 0 0 [] [.ref a, .int a1, .int a2, .int a3] [(a, .inr (1, [.int 0, .int 0, .int 0]))] (fun rv w => rv = none ∧ w = [(a, .inr (1, [.int a1, .int a2, .int a3]))]) :=
  CP.of (lv := [(0, .ref a), (1, .int a1), (2, .int a2), (3, .int a3)]) (by decide +kernel) (Nat.le_of_ble_eq_true rfl) rfl (fun X hl hE hro hX hq hn => by
  subst hl; subst hE
  refine g_aloadn hX 0 rfl rfl dX0_init_0 ?_
  refine g_iloadn hX 1 rfl rfl dX0_init_1 ?_
  refine g_iloadn hX 2 rfl rfl dX0_init_2 ?_
  refine g_iloadn hX 3 rfl rfl dX0_init_3 ?_
  refine g_callI (pre := []) (mid := [(a, .inr (1, [.int 0, .int 0, .int 0]))]) (post := []) [.int a1, .int a2, .int a3] hX hq kwi_RX0_X6_init (c_R1_X6_init (a := a) (a1 := a1) (a2 := a2) (a3 := a3)) (fun _ h => absurd h List.not_mem_nil) (by decide) (by decide) (by decide) rfl rfl (Nat.le_of_ble_eq_true rfl) dX0_init_4 (fun rv ws2 hp => ?_)
  obtain ⟨rfl, rfl⟩ := hp
  refine g_eqW (ws2 := [(a, .inr (1, [.int a1, .int a2, .int a3]))]) rfl ?_
  exact g_vret hX hq (by decide) (by decide) ⟨rfl, rfl⟩ dX0_init_7)
theorem kwi_RX1_X0_init : KwI RX1 1 yX0_init cX0_init 4 3 := ⟨wd_1_186, wd_1_139, wd_1_10, wd_1_140, rfl, ⟨by decide +kernel, by decide +kernel, by decide +kernel⟩, by decide⟩
set_option maxRecDepth 100000 in
set_option maxHeartbeats 8000000 in
theorem c_R1_X1_init {l : Launch} {E : En} {a : Nat} {a1 a2 a3 : Int32} : CP l E yX1_init cX1_init 4 none 3 0 0 [] [.ref a, .int a1, .int a2, .int a3] [(a, .inr (1, [.int 0, .int 0, .int 0]))] (fun rv w => rv = none ∧ w = [(a, .inr (1, [.int a1, .int a2, .int a3]))]) :=
  CP.of (lv := [(0, .ref a), (1, .int a1), (2, .int a2), (3, .int a3)]) (by decide +kernel) (Nat.le_of_ble_eq_true rfl) rfl (fun X hl hE hro hX hq hn => by
  subst hl; subst hE
  refine g_aloadn hX 0 rfl rfl dX1_init_0 ?_
  refine g_iloadn hX 1 rfl rfl dX1_init_1 ?_
  refine g_iloadn hX 2 rfl rfl dX1_init_2 ?_
  refine g_iloadn hX 3 rfl rfl dX1_init_3 ?_
  refine g_callI (pre := []) (mid := [(a, .inr (1, [.int 0, .int 0, .int 0]))]) (post := []) [.int a1, .int a2, .int a3] hX hq kwi_RX1_X0_init (c_R1_X0_init (a := a) (a1 := a1) (a2 := a2) (a3 := a3)) (fun _ h => absurd h List.not_mem_nil) (by decide) (by decide) (by decide) rfl rfl (Nat.le_of_ble_eq_true rfl) dX1_init_4 (fun rv ws2 hp => ?_)
  obtain ⟨rfl, rfl⟩ := hp
  refine g_eqW (ws2 := [(a, .inr (1, [.int a1, .int a2, .int a3]))]) rfl ?_
  exact g_vret hX hq (by decide) (by decide) ⟨rfl, rfl⟩ dX1_init_7)
set_option maxRecDepth 100000 in
set_option maxHeartbeats 8000000 in
theorem c_R3_X6_init {l : Launch} {E : En} {a : Nat} {a1 a2 a3 : Int32} : CP l E yX6_init cX6_init 4 none 1 0 0 [] [.ref a, .int a1, .int a2, .int a3] [(a, .inr (3, [.int 0, .int 0, .int 0]))] (fun rv w => rv = none ∧ w = [(a, .inr (3, [.int a1, .int a2, .int a3]))]) :=
  CP.of (lv := [(0, .ref a), (1, .int a1), (2, .int a2), (3, .int a3)]) (by decide +kernel) (Nat.le_of_ble_eq_true rfl) rfl (fun X hl hE hro hX hq hn => by
  subst hl; subst hE
  refine g_aloadn hX 0 rfl rfl dX6_init_0 ?_
  refine g_objI hX hq wd_1_144 (by decide) (Nat.le_of_ble_eq_true rfl) dX6_init_1 ?_
  refine g_aloadn hX 0 rfl rfl dX6_init_4 ?_
  refine g_iloadn hX 1 rfl rfl dX6_init_5 ?_
  refine g_putF (C := RX3) (T := TX3) (N := 3) (ty := .int) hX hn inX3 tyX3 tyX3_ok nmX3 0 rfl rfl 0 (by decide) wd_1_145 (fun _ h => h) rfl rfl (by decide +kernel) rfl rfl (Nat.le_of_ble_eq_true rfl) [(a, .inr (3, [.int a1, .int 0, .int 0]))] rfl dX6_init_6 ?_
  refine g_aloadn hX 0 rfl rfl dX6_init_9 ?_
  refine g_iloadn hX 2 rfl rfl dX6_init_10 ?_
  refine g_putF (C := RX3) (T := TX3) (N := 3) (ty := .int) hX hn inX3 tyX3 tyX3_ok nmX3 0 rfl rfl 1 (by decide) wd_1_147 (fun _ h => h) rfl rfl (by decide +kernel) rfl rfl (Nat.le_of_ble_eq_true rfl) [(a, .inr (3, [.int a1, .int a2, .int 0]))] rfl dX6_init_11 ?_
  refine g_aloadn hX 0 rfl rfl dX6_init_14 ?_
  refine g_iloadn hX 3 rfl rfl dX6_init_15 ?_
  refine g_putF (C := RX3) (T := TX3) (N := 3) (ty := .int) hX hn inX3 tyX3 tyX3_ok nmX3 0 rfl rfl 2 (by decide) wd_1_151 (fun _ h => h) rfl rfl (by decide +kernel) rfl rfl (Nat.le_of_ble_eq_true rfl) [(a, .inr (3, [.int a1, .int a2, .int a3]))] rfl dX6_init_16 ?_
  exact g_vret hX hq (by decide) (by decide) ⟨rfl, rfl⟩ dX6_init_19)
theorem kwi_RX3_X6_init : KwI RX3 1 yX6_init cX6_init 4 3 := ⟨wd_1_166, wd_1_142, wd_1_9, wd_1_143, rfl, ⟨by decide +kernel, by decide +kernel, by decide +kernel⟩, by decide⟩
set_option maxRecDepth 100000 in
set_option maxHeartbeats 8000000 in
theorem c_R3_X3_init {l : Launch} {E : En} {a : Nat} {a1 a2 a3 : Int32} : CP l E yX3_init cX3_init 4 none 2 0 0 [] [.ref a, .int a1, .int a2, .int a3] [(a, .inr (3, [.int 0, .int 0, .int 0]))] (fun rv w => rv = none ∧ w = [(a, .inr (3, [.int a1, .int a2, .int a3]))]) :=
  CP.of (lv := [(0, .ref a), (1, .int a1), (2, .int a2), (3, .int a3)]) (by decide +kernel) (Nat.le_of_ble_eq_true rfl) rfl (fun X hl hE hro hX hq hn => by
  subst hl; subst hE
  refine g_aloadn hX 0 rfl rfl dX3_init_0 ?_
  refine g_iloadn hX 1 rfl rfl dX3_init_1 ?_
  refine g_iloadn hX 2 rfl rfl dX3_init_2 ?_
  refine g_iloadn hX 3 rfl rfl dX3_init_3 ?_
  refine g_callI (pre := []) (mid := [(a, .inr (3, [.int 0, .int 0, .int 0]))]) (post := []) [.int a1, .int a2, .int a3] hX hq kwi_RX3_X6_init (c_R3_X6_init (a := a) (a1 := a1) (a2 := a2) (a3 := a3)) (fun _ h => absurd h List.not_mem_nil) (by decide) (by decide) (by decide) rfl rfl (Nat.le_of_ble_eq_true rfl) dX3_init_4 (fun rv ws2 hp => ?_)
  obtain ⟨rfl, rfl⟩ := hp
  refine g_eqW (ws2 := [(a, .inr (3, [.int a1, .int a2, .int a3]))]) rfl ?_
  exact g_vret hX hq (by decide) (by decide) ⟨rfl, rfl⟩ dX3_init_7)
set_option maxRecDepth 100000 in
set_option maxHeartbeats 8000000 in
theorem c_R5_X6_init {l : Launch} {E : En} {a : Nat} {a1 a2 a3 : Int32} : CP l E yX6_init cX6_init 4 none 1 0 0 [] [.ref a, .int a1, .int a2, .int a3] [(a, .inr (5, [.int 0, .int 0, .int 0]))] (fun rv w => rv = none ∧ w = [(a, .inr (5, [.int a1, .int a2, .int a3]))]) :=
  CP.of (lv := [(0, .ref a), (1, .int a1), (2, .int a2), (3, .int a3)]) (by decide +kernel) (Nat.le_of_ble_eq_true rfl) rfl (fun X hl hE hro hX hq hn => by
  subst hl; subst hE
  refine g_aloadn hX 0 rfl rfl dX6_init_0 ?_
  refine g_objI hX hq wd_1_144 (by decide) (Nat.le_of_ble_eq_true rfl) dX6_init_1 ?_
  refine g_aloadn hX 0 rfl rfl dX6_init_4 ?_
  refine g_iloadn hX 1 rfl rfl dX6_init_5 ?_
  refine g_putF (C := RX5) (T := TX5) (N := 3) (ty := .int) hX hn inX5 tyX5 tyX5_ok nmX5 0 rfl rfl 0 (by decide) wd_1_145 (fun _ h => h) rfl rfl (by decide +kernel) rfl rfl (Nat.le_of_ble_eq_true rfl) [(a, .inr (5, [.int a1, .int 0, .int 0]))] rfl dX6_init_6 ?_
  refine g_aloadn hX 0 rfl rfl dX6_init_9 ?_
  refine g_iloadn hX 2 rfl rfl dX6_init_10 ?_
  refine g_putF (C := RX5) (T := TX5) (N := 3) (ty := .int) hX hn inX5 tyX5 tyX5_ok nmX5 0 rfl rfl 1 (by decide) wd_1_147 (fun _ h => h) rfl rfl (by decide +kernel) rfl rfl (Nat.le_of_ble_eq_true rfl) [(a, .inr (5, [.int a1, .int a2, .int 0]))] rfl dX6_init_11 ?_
  refine g_aloadn hX 0 rfl rfl dX6_init_14 ?_
  refine g_iloadn hX 3 rfl rfl dX6_init_15 ?_
  refine g_putF (C := RX5) (T := TX5) (N := 3) (ty := .int) hX hn inX5 tyX5 tyX5_ok nmX5 0 rfl rfl 2 (by decide) wd_1_151 (fun _ h => h) rfl rfl (by decide +kernel) rfl rfl (Nat.le_of_ble_eq_true rfl) [(a, .inr (5, [.int a1, .int a2, .int a3]))] rfl dX6_init_16 ?_
  exact g_vret hX hq (by decide) (by decide) ⟨rfl, rfl⟩ dX6_init_19)
set_option maxRecDepth 100000 in
set_option maxHeartbeats 8000000 in
theorem c_R5_X3_init {l : Launch} {E : En} {a : Nat} {a1 a2 a3 : Int32} : CP l E yX3_init cX3_init 4 none 2 0 0 [] [.ref a, .int a1, .int a2, .int a3] [(a, .inr (5, [.int 0, .int 0, .int 0]))] (fun rv w => rv = none ∧ w = [(a, .inr (5, [.int a1, .int a2, .int a3]))]) :=
  CP.of (lv := [(0, .ref a), (1, .int a1), (2, .int a2), (3, .int a3)]) (by decide +kernel) (Nat.le_of_ble_eq_true rfl) rfl (fun X hl hE hro hX hq hn => by
  subst hl; subst hE
  refine g_aloadn hX 0 rfl rfl dX3_init_0 ?_
  refine g_iloadn hX 1 rfl rfl dX3_init_1 ?_
  refine g_iloadn hX 2 rfl rfl dX3_init_2 ?_
  refine g_iloadn hX 3 rfl rfl dX3_init_3 ?_
  refine g_callI (pre := []) (mid := [(a, .inr (5, [.int 0, .int 0, .int 0]))]) (post := []) [.int a1, .int a2, .int a3] hX hq kwi_RX3_X6_init (c_R5_X6_init (a := a) (a1 := a1) (a2 := a2) (a3 := a3)) (fun _ h => absurd h List.not_mem_nil) (by decide) (by decide) (by decide) rfl rfl (Nat.le_of_ble_eq_true rfl) dX3_init_4 (fun rv ws2 hp => ?_)
  obtain ⟨rfl, rfl⟩ := hp
  refine g_eqW (ws2 := [(a, .inr (5, [.int a1, .int a2, .int a3]))]) rfl ?_
  exact g_vret hX hq (by decide) (by decide) ⟨rfl, rfl⟩ dX3_init_7)
theorem kwi_RX5_X3_init : KwI RX5 1 yX3_init cX3_init 4 3 := ⟨wd_1_196, wd_1_164, wd_1_11, wd_1_165, rfl, ⟨by decide +kernel, by decide +kernel, by decide +kernel⟩, by decide⟩
set_option maxRecDepth 100000 in
set_option maxHeartbeats 8000000 in
theorem c_R5_X5_init {l : Launch} {E : En} {a : Nat} {a1 a2 a3 : Int32} : CP l E yX5_init cX5_init 4 none 3 0 0 [] [.ref a, .int a1, .int a2, .int a3] [(a, .inr (5, [.int 0, .int 0, .int 0]))] (fun rv w => rv = none ∧ w = [(a, .inr (5, [.int a1, .int a2, .int a3]))]) :=
  CP.of (lv := [(0, .ref a), (1, .int a1), (2, .int a2), (3, .int a3)]) (by decide +kernel) (Nat.le_of_ble_eq_true rfl) rfl (fun X hl hE hro hX hq hn => by
  subst hl; subst hE
  refine g_aloadn hX 0 rfl rfl dX5_init_0 ?_
  refine g_iloadn hX 1 rfl rfl dX5_init_1 ?_
  refine g_iloadn hX 2 rfl rfl dX5_init_2 ?_
  refine g_iloadn hX 3 rfl rfl dX5_init_3 ?_
  refine g_callI (pre := []) (mid := [(a, .inr (5, [.int 0, .int 0, .int 0]))]) (post := []) [.int a1, .int a2, .int a3] hX hq kwi_RX5_X3_init (c_R5_X3_init (a := a) (a1 := a1) (a2 := a2) (a3 := a3)) (fun _ h => absurd h List.not_mem_nil) (by decide) (by decide) (by decide) rfl rfl (Nat.le_of_ble_eq_true rfl) dX5_init_4 (fun rv ws2 hp => ?_)
  obtain ⟨rfl, rfl⟩ := hp
  refine g_eqW (ws2 := [(a, .inr (5, [.int a1, .int a2, .int a3]))]) rfl ?_
  exact g_vret hX hq (by decide) (by decide) ⟨rfl, rfl⟩ dX5_init_7)
set_option maxRecDepth 100000 in
set_option maxHeartbeats 8000000 in
theorem c_R6_X6_init {l : Launch} {E : En} {a : Nat} {a1 a2 a3 : Int32} : CP l E yX6_init cX6_init 4 none 1 0 0 [] [.ref a, .int a1, .int a2, .int a3] [(a, .inr (6, [.int 0, .int 0, .int 0]))] (fun rv w => rv = none ∧ w = [(a, .inr (6, [.int a1, .int a2, .int a3]))]) :=
  CP.of (lv := [(0, .ref a), (1, .int a1), (2, .int a2), (3, .int a3)]) (by decide +kernel) (Nat.le_of_ble_eq_true rfl) rfl (fun X hl hE hro hX hq hn => by
  subst hl; subst hE
  refine g_aloadn hX 0 rfl rfl dX6_init_0 ?_
  refine g_objI hX hq wd_1_144 (by decide) (Nat.le_of_ble_eq_true rfl) dX6_init_1 ?_
  refine g_aloadn hX 0 rfl rfl dX6_init_4 ?_
  refine g_iloadn hX 1 rfl rfl dX6_init_5 ?_
  refine g_putF (C := RX6) (T := TX6) (N := 3) (ty := .int) hX hn inX6 tyX6 tyX6_ok nmX6 0 rfl rfl 0 (by decide) wd_1_145 (fun _ h => h) rfl rfl (by decide +kernel) rfl rfl (Nat.le_of_ble_eq_true rfl) [(a, .inr (6, [.int a1, .int 0, .int 0]))] rfl dX6_init_6 ?_
  refine g_aloadn hX 0 rfl rfl dX6_init_9 ?_
  refine g_iloadn hX 2 rfl rfl dX6_init_10 ?_
  refine g_putF (C := RX6) (T := TX6) (N := 3) (ty := .int) hX hn inX6 tyX6 tyX6_ok nmX6 0 rfl rfl 1 (by decide) wd_1_147 (fun _ h => h) rfl rfl (by decide +kernel) rfl rfl (Nat.le_of_ble_eq_true rfl) [(a, .inr (6, [.int a1, .int a2, .int 0]))] rfl dX6_init_11 ?_
  refine g_aloadn hX 0 rfl rfl dX6_init_14 ?_
  refine g_iloadn hX 3 rfl rfl dX6_init_15 ?_
  refine g_putF (C := RX6) (T := TX6) (N := 3) (ty := .int) hX hn inX6 tyX6 tyX6_ok nmX6 0 rfl rfl 2 (by decide) wd_1_151 (fun _ h => h) rfl rfl (by decide +kernel) rfl rfl (Nat.le_of_ble_eq_true rfl) [(a, .inr (6, [.int a1, .int a2, .int a3]))] rfl dX6_init_16 ?_
  exact g_vret hX hq (by decide) (by decide) ⟨rfl, rfl⟩ dX6_init_19)
set_option maxRecDepth 100000 in
set_option maxHeartbeats 8000000 in
theorem c_R8_X6_init {l : Launch} {E : En} {a : Nat} {a1 a2 a3 : Int32} : CP l E yX6_init cX6_init 4 none 1 0 0 [] [.ref a, .int a1, .int a2, .int a3] [(a, .inr (8, [.int 0, .int 0, .int 0]))] (fun rv w => rv = none ∧ w = [(a, .inr (8, [.int a1, .int a2, .int a3]))]) :=
  CP.of (lv := [(0, .ref a), (1, .int a1), (2, .int a2), (3, .int a3)]) (by decide +kernel) (Nat.le_of_ble_eq_true rfl) rfl (fun X hl hE hro hX hq hn => by
  subst hl; subst hE
  refine g_aloadn hX 0 rfl rfl dX6_init_0 ?_
  refine g_objI hX hq wd_1_144 (by decide) (Nat.le_of_ble_eq_true rfl) dX6_init_1 ?_
  refine g_aloadn hX 0 rfl rfl dX6_init_4 ?_
  refine g_iloadn hX 1 rfl rfl dX6_init_5 ?_
  refine g_putF (C := RX8) (T := TX8) (N := 3) (ty := .int) hX hn inX8 tyX8 tyX8_ok nmX8 0 rfl rfl 0 (by decide) wd_1_145 (fun _ h => h) rfl rfl (by decide +kernel) rfl rfl (Nat.le_of_ble_eq_true rfl) [(a, .inr (8, [.int a1, .int 0, .int 0]))] rfl dX6_init_6 ?_
  refine g_aloadn hX 0 rfl rfl dX6_init_9 ?_
  refine g_iloadn hX 2 rfl rfl dX6_init_10 ?_
  refine g_putF (C := RX8) (T := TX8) (N := 3) (ty := .int) hX hn inX8 tyX8 tyX8_ok nmX8 0 rfl rfl 1 (by decide) wd_1_147 (fun _ h => h) rfl rfl (by decide +kernel) rfl rfl (Nat.le_of_ble_eq_true rfl) [(a, .inr (8, [.int a1, .int a2, .int 0]))] rfl dX6_init_11 ?_
  refine g_aloadn hX 0 rfl rfl dX6_init_14 ?_
  refine g_iloadn hX 3 rfl rfl dX6_init_15 ?_
  refine g_putF (C := RX8) (T := TX8) (N := 3) (ty := .int) hX hn inX8 tyX8 tyX8_ok nmX8 0 rfl rfl 2 (by decide) wd_1_151 (fun _ h => h) rfl rfl (by decide +kernel) rfl rfl (Nat.le_of_ble_eq_true rfl) [(a, .inr (8, [.int a1, .int a2, .int a3]))] rfl dX6_init_16 ?_
  exact g_vret hX hq (by decide) (by decide) ⟨rfl, rfl⟩ dX6_init_19)
theorem kwi_RX10_X6_init : KwI RX10 1 yX6_init cX6_init 4 3 := ⟨wd_1_176, wd_1_142, wd_1_9, wd_1_143, rfl, ⟨by decide +kernel, by decide +kernel, by decide +kernel⟩, by decide⟩
set_option maxRecDepth 100000 in
set_option maxHeartbeats 8000000 in
theorem c_R8_X10_init {l : Launch} {E : En} {a : Nat} {a1 a2 a3 : Int32} : CP l E yX10_init cX10_init 4 none 2 0 0 [] [.ref a, .int a1, .int a2, .int a3] [(a, .inr (8, [.int 0, .int 0, .int 0]))] (fun rv w => rv = none ∧ w = [(a, .inr (8, [.int a1, .int a2, .int a3]))]) :=
  CP.of (lv := [(0, .ref a), (1, .int a1), (2, .int a2), (3, .int a3)]) (by decide +kernel) (Nat.le_of_ble_eq_true rfl) rfl (fun X hl hE hro hX hq hn => by
  subst hl; subst hE
  refine g_aloadn hX 0 rfl rfl dX10_init_0 ?_
  refine g_iloadn hX 1 rfl rfl dX10_init_1 ?_
  refine g_iloadn hX 2 rfl rfl dX10_init_2 ?_
  refine g_iloadn hX 3 rfl rfl dX10_init_3 ?_
  refine g_callI (pre := []) (mid := [(a, .inr (8, [.int 0, .int 0, .int 0]))]) (post := []) [.int a1, .int a2, .int a3] hX hq kwi_RX10_X6_init (c_R8_X6_init (a := a) (a1 := a1) (a2 := a2) (a3 := a3)) (fun _ h => absurd h List.not_mem_nil) (by decide) (by decide) (by decide) rfl rfl (Nat.le_of_ble_eq_true rfl) dX10_init_4 (fun rv ws2 hp => ?_)
  obtain ⟨rfl, rfl⟩ := hp
  refine g_eqW (ws2 := [(a, .inr (8, [.int a1, .int a2, .int a3]))]) rfl ?_
  exact g_vret hX hq (by decide) (by decide) ⟨rfl, rfl⟩ dX10_init_7)
theorem kwi_RX8_X10_init : KwI RX8 1 yX10_init cX10_init 4 3 := ⟨wd_1_206, wd_1_174, wd_1_12, wd_1_175, rfl, ⟨by decide +kernel, by decide +kernel, by decide +kernel⟩, by decide⟩
set_option maxRecDepth 100000 in
set_option maxHeartbeats 8000000 in
theorem c_R8_X8_init {l : Launch} {E : En} {a : Nat} {a1 a2 a3 : Int32} : CP l E yX8_init cX8_init 4 none 3 0 0 [] [.ref a, .int a1, .int a2, .int a3] [(a, .inr (8, [.int 0, .int 0, .int 0]))] (fun rv w => rv = none ∧ w = [(a, .inr (8, [.int a1, .int a2, .int a3]))]) :=
  CP.of (lv := [(0, .ref a), (1, .int a1), (2, .int a2), (3, .int a3)]) (by decide +kernel) (Nat.le_of_ble_eq_true rfl) rfl (fun X hl hE hro hX hq hn => by
  subst hl; subst hE
  refine g_aloadn hX 0 rfl rfl dX8_init_0 ?_
  refine g_iloadn hX 1 rfl rfl dX8_init_1 ?_
  refine g_iloadn hX 2 rfl rfl dX8_init_2 ?_
  refine g_iloadn hX 3 rfl rfl dX8_init_3 ?_
  refine g_callI (pre := []) (mid := [(a, .inr (8, [.int 0, .int 0, .int 0]))]) (post := []) [.int a1, .int a2, .int a3] hX hq kwi_RX8_X10_init (c_R8_X10_init (a := a) (a1 := a1) (a2 := a2) (a3 := a3)) (fun _ h => absurd h List.not_mem_nil) (by decide) (by decide) (by decide) rfl rfl (Nat.le_of_ble_eq_true rfl) dX8_init_4 (fun rv ws2 hp => ?_)
  obtain ⟨rfl, rfl⟩ := hp
  refine g_eqW (ws2 := [(a, .inr (8, [.int a1, .int a2, .int a3]))]) rfl ?_
  exact g_vret hX hq (by decide) (by decide) ⟨rfl, rfl⟩ dX8_init_7)
set_option maxRecDepth 100000 in
set_option maxHeartbeats 8000000 in
theorem c_R10_X6_init {l : Launch} {E : En} {a : Nat} {a1 a2 a3 : Int32} : CP l E yX6_init cX6_init 4 none 1 0 0 [] [.ref a, .int a1, .int a2, .int a3] [(a, .inr (10, [.int 0, .int 0, .int 0]))] (fun rv w => rv = none ∧ w = [(a, .inr (10, [.int a1, .int a2, .int a3]))]) :=
  CP.of (lv := [(0, .ref a), (1, .int a1), (2, .int a2), (3, .int a3)]) (by decide +kernel) (Nat.le_of_ble_eq_true rfl) rfl (fun X hl hE hro hX hq hn => by
  subst hl; subst hE
  refine g_aloadn hX 0 rfl rfl dX6_init_0 ?_
  refine g_objI hX hq wd_1_144 (by decide) (Nat.le_of_ble_eq_true rfl) dX6_init_1 ?_
  refine g_aloadn hX 0 rfl rfl dX6_init_4 ?_
  refine g_iloadn hX 1 rfl rfl dX6_init_5 ?_
  refine g_putF (C := RX10) (T := TX10) (N := 3) (ty := .int) hX hn inX10 tyX10 tyX10_ok nmX10 0 rfl rfl 0 (by decide) wd_1_145 (fun _ h => h) rfl rfl (by decide +kernel) rfl rfl (Nat.le_of_ble_eq_true rfl) [(a, .inr (10, [.int a1, .int 0, .int 0]))] rfl dX6_init_6 ?_
  refine g_aloadn hX 0 rfl rfl dX6_init_9 ?_
  refine g_iloadn hX 2 rfl rfl dX6_init_10 ?_
  refine g_putF (C := RX10) (T := TX10) (N := 3) (ty := .int) hX hn inX10 tyX10 tyX10_ok nmX10 0 rfl rfl 1 (by decide) wd_1_147 (fun _ h => h) rfl rfl (by decide +kernel) rfl rfl (Nat.le_of_ble_eq_true rfl) [(a, .inr (10, [.int a1, .int a2, .int 0]))] rfl dX6_init_11 ?_
  refine g_aloadn hX 0 rfl rfl dX6_init_14 ?_
  refine g_iloadn hX 3 rfl rfl dX6_init_15 ?_
  refine g_putF (C := RX10) (T := TX10) (N := 3) (ty := .int) hX hn inX10 tyX10 tyX10_ok nmX10 0 rfl rfl 2 (by decide) wd_1_151 (fun _ h => h) rfl rfl (by decide +kernel) rfl rfl (Nat.le_of_ble_eq_true rfl) [(a, .inr (10, [.int a1, .int a2, .int a3]))] rfl dX6_init_16 ?_
  exact g_vret hX hq (by decide) (by decide) ⟨rfl, rfl⟩ dX6_init_19)
set_option maxRecDepth 100000 in
set_option maxHeartbeats 8000000 in
theorem c_R10_X10_init {l : Launch} {E : En} {a : Nat} {a1 a2 a3 : Int32} : CP l E yX10_init cX10_init 4 none 2 0 0 [] [.ref a, .int a1, .int a2, .int a3] [(a, .inr (10, [.int 0, .int 0, .int 0]))] (fun rv w => rv = none ∧ w = [(a, .inr (10, [.int a1, .int a2, .int a3]))]) :=
  CP.of (lv := [(0, .ref a), (1, .int a1), (2, .int a2), (3, .int a3)]) (by decide +kernel) (Nat.le_of_ble_eq_true rfl) rfl (fun X hl hE hro hX hq hn => by
  subst hl; subst hE
  refine g_aloadn hX 0 rfl rfl dX10_init_0 ?_
  refine g_iloadn hX 1 rfl rfl dX10_init_1 ?_
  refine g_iloadn hX 2 rfl rfl dX10_init_2 ?_
  refine g_iloadn hX 3 rfl rfl dX10_init_3 ?_
  refine g_callI (pre := []) (mid := [(a, .inr (10, [.int 0, .int 0, .int 0]))]) (post := []) [.int a1, .int a2, .int a3] hX hq kwi_RX10_X6_init (c_R10_X6_init (a := a) (a1 := a1) (a2 := a2) (a3 := a3)) (fun _ h => absurd h List.not_mem_nil) (by decide) (by decide) (by decide) rfl rfl (Nat.le_of_ble_eq_true rfl) dX10_init_4 (fun rv ws2 hp => ?_)
  obtain ⟨rfl, rfl⟩ := hp
  refine g_eqW (ws2 := [(a, .inr (10, [.int a1, .int a2, .int a3]))]) rfl ?_
  exact g_vret hX hq (by decide) (by decide) ⟨rfl, rfl⟩ dX10_init_7)
set_option maxRecDepth 100000 in
set_option maxHeartbeats 8000000 in
theorem c_X2_init0 {l : Launch} {E : En} {a : Nat} : CP l E yX2_init cX2_init 4 none 5 1 50 [] [.ref a, .ref (E.aK 0), .ref (E.aK 1)] [(a, .inr (2, [.null, .null, .int 0, .null, .int 0, .int 0, .int 0, .int 0, .int 0, .int 0]))] (fun rv w => rv = none ∧ ∃ q1 : Nat, w = [(a, .inr (2, [.ref (E.aK 0), .ref q1, .int 9, .ref q1, .int 0, .int 0, .int 0, .int 0, .int 0, .int 0])), (q1, .inl (E.cB, 50, .inl (txF 1)))]) :=
  CP.of (lv := [(0, .ref a), (1, .ref (E.aK 0)), (2, .ref (E.aK 1))]) (by decide +kernel) (Nat.le_of_ble_eq_true rfl) rfl (fun X hl hE hro hX hq hn => by
  subst hl; subst hE
  refine g_aloadn hX 0 rfl rfl dX2_init_0 ?_
  refine g_objI hX hq wd_1_46 (by decide) (Nat.le_of_ble_eq_true rfl) dX2_init_1 ?_
  refine g_aloadn hX 0 rfl rfl dX2_init_4 ?_
  refine g_bipush hX (v := 50) (by decide) dX2_init_5 ?_
  refine g_newB hX hq wd_1_130 (N := 50) (by decide) (by decide) (Nat.le_of_ble_eq_true rfl) (by decide) (by decide) dX2_init_7 (fun q1 => ?_)
  refine g_eqW (ws2 := [(a, .inr (2, [.null, .null, .int 0, .null, .int 0, .int 0, .int 0, .int 0, .int 0, .int 0])), (q1, .inl (X.E.cB, 50, .inl (fun _ => 0)))]) rfl ?_
  refine g_putF (C := RX2) (T := TX2) (N := 10) (ty := (.array .byte)) hX hn inX2 tyX2 tyX2_ok nmX2 0 rfl rfl 1 (by decide) wd_1_99 (fun _ h => h) rfl rfl (by decide +kernel) rfl rfl (Nat.le_of_ble_eq_true rfl) [(a, .inr (2, [.null, .ref q1, .int 0, .null, .int 0, .int 0, .int 0, .int 0, .int 0, .int 0])), (q1, .inl (X.E.cB, 50, .inl (fun _ => 0)))] rfl dX2_init_9 ?_
  refine g_aloadn hX 0 rfl rfl dX2_init_12 ?_
  refine g_iconst hX (v := 0) (by decide) dX2_init_13 ?_
  refine g_put (C := RX2) (T := TX2) (N := 10) (ty := .int) hX inX2 tyX2 tyX2_ok nmX2 0 rfl rfl 2 (by decide) wd_1_100 (fun _ h => h) rfl (by decide +kernel) rfl rfl (Nat.le_of_ble_eq_true rfl) [(a, .inr (2, [.null, .ref q1, .int 0, .null, .int 0, .int 0, .int 0, .int 0, .int 0, .int 0])), (q1, .inl (X.E.cB, 50, .inl (fun _ => 0)))] rfl dX2_init_14 ?_
  refine g_aloadn hX 0 rfl rfl dX2_init_17 ?_
  refine g_aloadn hX 0 rfl rfl dX2_init_18 ?_
  refine g_get (C := RX2) (T := TX2) (N := 10) hX inX2 0 rfl rfl 1 (by decide) wd_1_99 (fun _ h => h) rfl dX2_init_19 ?_
  refine g_put (C := RX2) (T := TX2) (N := 10) (ty := (.array .byte)) hX inX2 tyX2 tyX2_ok nmX2 0 rfl rfl 3 (by decide) wd_1_101 (fun _ h => h) rfl (by decide +kernel) rfl rfl (Nat.le_of_ble_eq_true rfl) [(a, .inr (2, [.null, .ref q1, .int 0, .ref q1, .int 0, .int 0, .int 0, .int 0, .int 0, .int 0])), (q1, .inl (X.E.cB, 50, .inl (fun _ => 0)))] rfl dX2_init_22 ?_
  refine g_aloadn hX 0 rfl rfl dX2_init_25 ?_
  refine g_iconst hX (v := 0) (by decide) dX2_init_26 ?_
  refine g_put (C := RX2) (T := TX2) (N := 10) (ty := .int) hX inX2 tyX2 tyX2_ok nmX2 0 rfl rfl 4 (by decide) wd_1_102 (fun _ h => h) rfl (by decide +kernel) rfl rfl (Nat.le_of_ble_eq_true rfl) [(a, .inr (2, [.null, .ref q1, .int 0, .ref q1, .int 0, .int 0, .int 0, .int 0, .int 0, .int 0])), (q1, .inl (X.E.cB, 50, .inl (fun _ => 0)))] rfl dX2_init_27 ?_
  refine g_aloadn hX 0 rfl rfl dX2_init_30 ?_
  refine g_iconst hX (v := 0) (by decide) dX2_init_31 ?_
  refine g_put (C := RX2) (T := TX2) (N := 10) (ty := .int) hX inX2 tyX2 tyX2_ok nmX2 0 rfl rfl 5 (by decide) wd_1_103 (fun _ h => h) rfl (by decide +kernel) rfl rfl (Nat.le_of_ble_eq_true rfl) [(a, .inr (2, [.null, .ref q1, .int 0, .ref q1, .int 0, .int 0, .int 0, .int 0, .int 0, .int 0])), (q1, .inl (X.E.cB, 50, .inl (fun _ => 0)))] rfl dX2_init_32 ?_
  refine g_aloadn hX 0 rfl rfl dX2_init_35 ?_
  refine g_iconst hX (v := 0) (by decide) dX2_init_36 ?_
  refine g_put (C := RX2) (T := TX2) (N := 10) (ty := .boolean) hX inX2 tyX2 tyX2_ok nmX2 0 rfl rfl 6 (by decide) wd_1_104 (fun _ h => h) rfl (by decide +kernel) rfl rfl (Nat.le_of_ble_eq_true rfl) [(a, .inr (2, [.null, .ref q1, .int 0, .ref q1, .int 0, .int 0, .int 0, .int 0, .int 0, .int 0])), (q1, .inl (X.E.cB, 50, .inl (fun _ => 0)))] rfl dX2_init_37 ?_
  refine g_aloadn hX 0 rfl rfl dX2_init_40 ?_
  refine g_iconst hX (v := 0) (by decide) dX2_init_41 ?_
  refine g_put (C := RX2) (T := TX2) (N := 10) (ty := .int) hX inX2 tyX2 tyX2_ok nmX2 0 rfl rfl 7 (by decide) wd_1_105 (fun _ h => h) rfl (by decide +kernel) rfl rfl (Nat.le_of_ble_eq_true rfl) [(a, .inr (2, [.null, .ref q1, .int 0, .ref q1, .int 0, .int 0, .int 0, .int 0, .int 0, .int 0])), (q1, .inl (X.E.cB, 50, .inl (fun _ => 0)))] rfl dX2_init_42 ?_
  refine g_aloadn hX 0 rfl rfl dX2_init_45 ?_
  refine g_iconst hX (v := 0) (by decide) dX2_init_46 ?_
  refine g_put (C := RX2) (T := TX2) (N := 10) (ty := .int) hX inX2 tyX2 tyX2_ok nmX2 0 rfl rfl 8 (by decide) wd_1_106 (fun _ h => h) rfl (by decide +kernel) rfl rfl (Nat.le_of_ble_eq_true rfl) [(a, .inr (2, [.null, .ref q1, .int 0, .ref q1, .int 0, .int 0, .int 0, .int 0, .int 0, .int 0])), (q1, .inl (X.E.cB, 50, .inl (fun _ => 0)))] rfl dX2_init_47 ?_
  refine g_aloadn hX 0 rfl rfl dX2_init_50 ?_
  refine g_iconst hX (v := 0) (by decide) dX2_init_51 ?_
  refine g_put (C := RX2) (T := TX2) (N := 10) (ty := .int) hX inX2 tyX2 tyX2_ok nmX2 0 rfl rfl 9 (by decide) wd_1_107 (fun _ h => h) rfl (by decide +kernel) rfl rfl (Nat.le_of_ble_eq_true rfl) [(a, .inr (2, [.null, .ref q1, .int 0, .ref q1, .int 0, .int 0, .int 0, .int 0, .int 0, .int 0])), (q1, .inl (X.E.cB, 50, .inl (fun _ => 0)))] rfl dX2_init_52 ?_
  refine g_aloadn hX 0 rfl rfl dX2_init_55 ?_
  refine g_aloadn hX 1 rfl rfl dX2_init_56 ?_
  refine g_putF (C := RX2) (T := TX2) (N := 10) (ty := (.object "java/lang/String")) hX hn inX2 tyX2 tyX2_ok nmX2 0 rfl rfl 0 (by decide) wd_1_98 (fun _ h => h) rfl rfl (by decide +kernel) rfl rfl (Nat.le_of_ble_eq_true rfl) [(a, .inr (2, [.ref (X.E.aK 0), .ref q1, .int 0, .ref q1, .int 0, .int 0, .int 0, .int 0, .int 0, .int 0])), (q1, .inl (X.E.cB, 50, .inl (fun _ => 0)))] rfl dX2_init_57 ?_
  refine g_aloadn hX 0 rfl rfl dX2_init_60 ?_
  refine g_aloadn hX 2 rfl rfl dX2_init_61 ?_
  refine g_eqW (app0 _) (g_callVs (pre := _) (mid := []) (post := []) [] hX hq (i := 1) (by decide) kw_RX2_J0_length_8abf5 (c_J0_length_8abf5 (by decide) (r := 9) (by decide +kernel)) (fun _ h => absurd h List.not_mem_nil) (by decide) (by decide) (by decide) rfl rfl (Nat.le_of_ble_eq_true rfl) dX2_init_62 (fun rv ws2 hp2 => ?_))
  obtain ⟨rfl, rfl⟩ := hp2
  refine g_eqW (app0 _).symm ?_
  refine g_bipush hX (v := 50) (by decide) dX2_init_65 ?_
  refine g_jmin hX hq km_RX2_min (by decide) (by decide) (by decide) (Nat.le_of_ble_eq_true rfl) dX2_init_67 ?_
  refine g_nm (y := 9) (x := jmin 9 50) (by decide +kernel) ?_
  refine g_put (C := RX2) (T := TX2) (N := 10) (ty := .int) hX inX2 tyX2 tyX2_ok nmX2 0 rfl rfl 2 (by decide) wd_1_100 (fun _ h => h) rfl (by decide +kernel) rfl rfl (Nat.le_of_ble_eq_true rfl) [(a, .inr (2, [.ref (X.E.aK 0), .ref q1, .int 9, .ref q1, .int 0, .int 0, .int 0, .int 0, .int 0, .int 0])), (q1, .inl (X.E.cB, 50, .inl (fun _ => 0)))] rfl dX2_init_70 ?_
  refine g_iconst hX (v := 0) (by decide) dX2_init_73 ?_
  refine g_istoren hX [(3, .int 0), (0, .ref a), (1, .ref (X.E.aK 0)), (2, .ref (X.E.aK 1))] rfl (by decide) rfl dX2_init_74 ?_
  refine g_iloadn hX 0 rfl rfl dX2_init_75 ?_
  refine g_aloadn hX 1 rfl rfl dX2_init_76 ?_
  refine g_get (C := RX2) (T := TX2) (N := 10) hX inX2 0 rfl rfl 2 (by decide) wd_1_100 (fun _ h => h) rfl dX2_init_77 ?_
  refine g_icmp_ge hX 101 (by decide) dX2_init_80 (fun c => absurd c (by decide)) (fun _ => ?_)
  refine g_aloadn hX 1 rfl rfl dX2_init_83 ?_
  refine g_get (C := RX2) (T := TX2) (N := 10) hX inX2 0 rfl rfl 1 (by decide) wd_1_99 (fun _ h => h) rfl dX2_init_84 ?_
  refine g_iloadn hX 0 rfl rfl dX2_init_87 ?_
  refine g_aloadn hX 3 rfl rfl dX2_init_88 ?_
  refine g_iloadn hX 0 rfl rfl dX2_init_89 ?_
  refine g_eqW (app0 _) (g_callVs (pre := _) (mid := []) (post := []) [.int 0] hX hq (i := 1) (by decide) kw_RX2_J0_charAt_5068e (c_J0_charAt_5068e (by decide) (r := 104) (by decide +kernel)) (fun _ h => absurd h List.not_mem_nil) (by decide) (by decide) (by decide) rfl rfl (Nat.le_of_ble_eq_true rfl) dX2_init_90 (fun rv ws2 hp2 => ?_))
  obtain ⟨rfl, rfl⟩ := hp2
  refine g_eqW (app0 _).symm ?_
  refine g_ji2b hX dX2_init_93 ?_
  refine g_nm (y := 104) (x := ji2b 104) (by decide +kernel) ?_
  refine g_bast hX 1 rfl (vpc (by decide)) 0 (by decide) [(a, .inr (2, [.ref (X.E.aK 0), .ref q1, .int 9, .ref q1, .int 0, .int 0, .int 0, .int 0, .int 0, .int 0])), (q1, .inl (X.E.cB, 50, .inl (upd (fun _ => 0) 0 (Int8.toInt32 (Int32.toInt8 104)))))] rfl dX2_init_94 ?_
  refine g_iinc hX 0 (v := 1) [(3, .int 1), (0, .ref a), (1, .ref (X.E.aK 0)), (2, .ref (X.E.aK 1))] rfl (by decide) (by decide) rfl dX2_init_95 ?_
  refine g_goto hX 75 (by decide) dX2_init_98 ?_
  refine g_iloadn hX 0 rfl rfl dX2_init_75 ?_
  refine g_aloadn hX 1 rfl rfl dX2_init_76 ?_
  refine g_get (C := RX2) (T := TX2) (N := 10) hX inX2 0 rfl rfl 2 (by decide) wd_1_100 (fun _ h => h) rfl dX2_init_77 ?_
  refine g_icmp_ge hX 101 (by decide) dX2_init_80 (fun c => absurd c (by decide)) (fun _ => ?_)
  refine g_aloadn hX 1 rfl rfl dX2_init_83 ?_
  refine g_get (C := RX2) (T := TX2) (N := 10) hX inX2 0 rfl rfl 1 (by decide) wd_1_99 (fun _ h => h) rfl dX2_init_84 ?_
  refine g_iloadn hX 0 rfl rfl dX2_init_87 ?_
  refine g_aloadn hX 3 rfl rfl dX2_init_88 ?_
  refine g_iloadn hX 0 rfl rfl dX2_init_89 ?_
  refine g_eqW (app0 _) (g_callVs (pre := _) (mid := []) (post := []) [.int 1] hX hq (i := 1) (by decide) kw_RX2_J0_charAt_5068e (c_J0_charAt_5068e (by decide) (r := 42) (by decide +kernel)) (fun _ h => absurd h List.not_mem_nil) (by decide) (by decide) (by decide) rfl rfl (Nat.le_of_ble_eq_true rfl) dX2_init_90 (fun rv ws2 hp2 => ?_))
  obtain ⟨rfl, rfl⟩ := hp2
  refine g_eqW (app0 _).symm ?_
  refine g_ji2b hX dX2_init_93 ?_
  refine g_nm (y := 42) (x := ji2b 42) (by decide +kernel) ?_
  refine g_bast hX 1 rfl (vpc (by decide)) 1 (by decide) [(a, .inr (2, [.ref (X.E.aK 0), .ref q1, .int 9, .ref q1, .int 0, .int 0, .int 0, .int 0, .int 0, .int 0])), (q1, .inl (X.E.cB, 50, .inl (upd (upd (fun _ => 0) 0 (Int8.toInt32 (Int32.toInt8 104))) 1 (Int8.toInt32 (Int32.toInt8 42)))))] rfl dX2_init_94 ?_
  refine g_iinc hX 0 (v := 2) [(3, .int 2), (0, .ref a), (1, .ref (X.E.aK 0)), (2, .ref (X.E.aK 1))] rfl (by decide) (by decide) rfl dX2_init_95 ?_
  refine g_goto hX 75 (by decide) dX2_init_98 ?_
  refine g_iloadn hX 0 rfl rfl dX2_init_75 ?_
  refine g_aloadn hX 1 rfl rfl dX2_init_76 ?_
  refine g_get (C := RX2) (T := TX2) (N := 10) hX inX2 0 rfl rfl 2 (by decide) wd_1_100 (fun _ h => h) rfl dX2_init_77 ?_
  refine g_icmp_ge hX 101 (by decide) dX2_init_80 (fun c => absurd c (by decide)) (fun _ => ?_)
  refine g_aloadn hX 1 rfl rfl dX2_init_83 ?_
  refine g_get (C := RX2) (T := TX2) (N := 10) hX inX2 0 rfl rfl 1 (by decide) wd_1_99 (fun _ h => h) rfl dX2_init_84 ?_
  refine g_iloadn hX 0 rfl rfl dX2_init_87 ?_
  refine g_aloadn hX 3 rfl rfl dX2_init_88 ?_
  refine g_iloadn hX 0 rfl rfl dX2_init_89 ?_
  refine g_eqW (app0 _) (g_callVs (pre := _) (mid := []) (post := []) [.int 2] hX hq (i := 1) (by decide) kw_RX2_J0_charAt_5068e (c_J0_charAt_5068e (by decide) (r := 50) (by decide +kernel)) (fun _ h => absurd h List.not_mem_nil) (by decide) (by decide) (by decide) rfl rfl (Nat.le_of_ble_eq_true rfl) dX2_init_90 (fun rv ws2 hp2 => ?_))
  obtain ⟨rfl, rfl⟩ := hp2
  refine g_eqW (app0 _).symm ?_
  refine g_ji2b hX dX2_init_93 ?_
  refine g_nm (y := 50) (x := ji2b 50) (by decide +kernel) ?_
  refine g_bast hX 1 rfl (vpc (by decide)) 2 (by decide) [(a, .inr (2, [.ref (X.E.aK 0), .ref q1, .int 9, .ref q1, .int 0, .int 0, .int 0, .int 0, .int 0, .int 0])), (q1, .inl (X.E.cB, 50, .inl (upd (upd (upd (fun _ => 0) 0 (Int8.toInt32 (Int32.toInt8 104))) 1 (Int8.toInt32 (Int32.toInt8 42))) 2 (Int8.toInt32 (Int32.toInt8 50)))))] rfl dX2_init_94 ?_
  refine g_iinc hX 0 (v := 3) [(3, .int 3), (0, .ref a), (1, .ref (X.E.aK 0)), (2, .ref (X.E.aK 1))] rfl (by decide) (by decide) rfl dX2_init_95 ?_
  refine g_goto hX 75 (by decide) dX2_init_98 ?_
  refine g_iloadn hX 0 rfl rfl dX2_init_75 ?_
  refine g_aloadn hX 1 rfl rfl dX2_init_76 ?_
  refine g_get (C := RX2) (T := TX2) (N := 10) hX inX2 0 rfl rfl 2 (by decide) wd_1_100 (fun _ h => h) rfl dX2_init_77 ?_
  refine g_icmp_ge hX 101 (by decide) dX2_init_80 (fun c => absurd c (by decide)) (fun _ => ?_)
  refine g_aloadn hX 1 rfl rfl dX2_init_83 ?_
  refine g_get (C := RX2) (T := TX2) (N := 10) hX inX2 0 rfl rfl 1 (by decide) wd_1_99 (fun _ h => h) rfl dX2_init_84 ?_
  refine g_iloadn hX 0 rfl rfl dX2_init_87 ?_
  refine g_aloadn hX 3 rfl rfl dX2_init_88 ?_
  refine g_iloadn hX 0 rfl rfl dX2_init_89 ?_
  refine g_eqW (app0 _) (g_callVs (pre := _) (mid := []) (post := []) [.int 3] hX hq (i := 1) (by decide) kw_RX2_J0_charAt_5068e (c_J0_charAt_5068e (by decide) (r := 43) (by decide +kernel)) (fun _ h => absurd h List.not_mem_nil) (by decide) (by decide) (by decide) rfl rfl (Nat.le_of_ble_eq_true rfl) dX2_init_90 (fun rv ws2 hp2 => ?_))
  obtain ⟨rfl, rfl⟩ := hp2
  refine g_eqW (app0 _).symm ?_
  refine g_ji2b hX dX2_init_93 ?_
  refine g_nm (y := 43) (x := ji2b 43) (by decide +kernel) ?_
  refine g_bast hX 1 rfl (vpc (by decide)) 3 (by decide) [(a, .inr (2, [.ref (X.E.aK 0), .ref q1, .int 9, .ref q1, .int 0, .int 0, .int 0, .int 0, .int 0, .int 0])), (q1, .inl (X.E.cB, 50, .inl (upd (upd (upd (upd (fun _ => 0) 0 (Int8.toInt32 (Int32.toInt8 104))) 1 (Int8.toInt32 (Int32.toInt8 42))) 2 (Int8.toInt32 (Int32.toInt8 50))) 3 (Int8.toInt32 (Int32.toInt8 43)))))] rfl dX2_init_94 ?_
  refine g_iinc hX 0 (v := 4) [(3, .int 4), (0, .ref a), (1, .ref (X.E.aK 0)), (2, .ref (X.E.aK 1))] rfl (by decide) (by decide) rfl dX2_init_95 ?_
  refine g_goto hX 75 (by decide) dX2_init_98 ?_
  refine g_iloadn hX 0 rfl rfl dX2_init_75 ?_
  refine g_aloadn hX 1 rfl rfl dX2_init_76 ?_
  refine g_get (C := RX2) (T := TX2) (N := 10) hX inX2 0 rfl rfl 2 (by decide) wd_1_100 (fun _ h => h) rfl dX2_init_77 ?_
  refine g_icmp_ge hX 101 (by decide) dX2_init_80 (fun c => absurd c (by decide)) (fun _ => ?_)
  refine g_aloadn hX 1 rfl rfl dX2_init_83 ?_
  refine g_get (C := RX2) (T := TX2) (N := 10) hX inX2 0 rfl rfl 1 (by decide) wd_1_99 (fun _ h => h) rfl dX2_init_84 ?_
  refine g_iloadn hX 0 rfl rfl dX2_init_87 ?_
  refine g_aloadn hX 3 rfl rfl dX2_init_88 ?_
  refine g_iloadn hX 0 rfl rfl dX2_init_89 ?_
  refine g_eqW (app0 _) (g_callVs (pre := _) (mid := []) (post := []) [.int 4] hX hq (i := 1) (by decide) kw_RX2_J0_charAt_5068e (c_J0_charAt_5068e (by decide) (r := 110) (by decide +kernel)) (fun _ h => absurd h List.not_mem_nil) (by decide) (by decide) (by decide) rfl rfl (Nat.le_of_ble_eq_true rfl) dX2_init_90 (fun rv ws2 hp2 => ?_))
  obtain ⟨rfl, rfl⟩ := hp2
  refine g_eqW (app0 _).symm ?_
  refine g_ji2b hX dX2_init_93 ?_
  refine g_nm (y := 110) (x := ji2b 110) (by decide +kernel) ?_
  refine g_bast hX 1 rfl (vpc (by decide)) 4 (by decide) [(a, .inr (2, [.ref (X.E.aK 0), .ref q1, .int 9, .ref q1, .int 0, .int 0, .int 0, .int 0, .int 0, .int 0])), (q1, .inl (X.E.cB, 50, .inl (upd (upd (upd (upd (upd (fun _ => 0) 0 (Int8.toInt32 (Int32.toInt8 104))) 1 (Int8.toInt32 (Int32.toInt8 42))) 2 (Int8.toInt32 (Int32.toInt8 50))) 3 (Int8.toInt32 (Int32.toInt8 43))) 4 (Int8.toInt32 (Int32.toInt8 110)))))] rfl dX2_init_94 ?_
  refine g_iinc hX 0 (v := 5) [(3, .int 5), (0, .ref a), (1, .ref (X.E.aK 0)), (2, .ref (X.E.aK 1))] rfl (by decide) (by decide) rfl dX2_init_95 ?_
  refine g_goto hX 75 (by decide) dX2_init_98 ?_
  refine g_iloadn hX 0 rfl rfl dX2_init_75 ?_
  refine g_aloadn hX 1 rfl rfl dX2_init_76 ?_
  refine g_get (C := RX2) (T := TX2) (N := 10) hX inX2 0 rfl rfl 2 (by decide) wd_1_100 (fun _ h => h) rfl dX2_init_77 ?_
  refine g_icmp_ge hX 101 (by decide) dX2_init_80 (fun c => absurd c (by decide)) (fun _ => ?_)
  refine g_aloadn hX 1 rfl rfl dX2_init_83 ?_
  refine g_get (C := RX2) (T := TX2) (N := 10) hX inX2 0 rfl rfl 1 (by decide) wd_1_99 (fun _ h => h) rfl dX2_init_84 ?_
  refine g_iloadn hX 0 rfl rfl dX2_init_87 ?_
  refine g_aloadn hX 3 rfl rfl dX2_init_88 ?_
  refine g_iloadn hX 0 rfl rfl dX2_init_89 ?_
  refine g_eqW (app0 _) (g_callVs (pre := _) (mid := []) (post := []) [.int 5] hX hq (i := 1) (by decide) kw_RX2_J0_charAt_5068e (c_J0_charAt_5068e (by decide) (r := 45) (by decide +kernel)) (fun _ h => absurd h List.not_mem_nil) (by decide) (by decide) (by decide) rfl rfl (Nat.le_of_ble_eq_true rfl) dX2_init_90 (fun rv ws2 hp2 => ?_))
  obtain ⟨rfl, rfl⟩ := hp2
  refine g_eqW (app0 _).symm ?_
  refine g_ji2b hX dX2_init_93 ?_
  refine g_nm (y := 45) (x := ji2b 45) (by decide +kernel) ?_
  refine g_bast hX 1 rfl (vpc (by decide)) 5 (by decide) [(a, .inr (2, [.ref (X.E.aK 0), .ref q1, .int 9, .ref q1, .int 0, .int 0, .int 0, .int 0, .int 0, .int 0])), (q1, .inl (X.E.cB, 50, .inl (upd (upd (upd (upd (upd (upd (fun _ => 0) 0 (Int8.toInt32 (Int32.toInt8 104))) 1 (Int8.toInt32 (Int32.toInt8 42))) 2 (Int8.toInt32 (Int32.toInt8 50))) 3 (Int8.toInt32 (Int32.toInt8 43))) 4 (Int8.toInt32 (Int32.toInt8 110))) 5 (Int8.toInt32 (Int32.toInt8 45)))))] rfl dX2_init_94 ?_
  refine g_iinc hX 0 (v := 6) [(3, .int 6), (0, .ref a), (1, .ref (X.E.aK 0)), (2, .ref (X.E.aK 1))] rfl (by decide) (by decide) rfl dX2_init_95 ?_
  refine g_goto hX 75 (by decide) dX2_init_98 ?_
  refine g_iloadn hX 0 rfl rfl dX2_init_75 ?_
  refine g_aloadn hX 1 rfl rfl dX2_init_76 ?_
  refine g_get (C := RX2) (T := TX2) (N := 10) hX inX2 0 rfl rfl 2 (by decide) wd_1_100 (fun _ h => h) rfl dX2_init_77 ?_
  refine g_icmp_ge hX 101 (by decide) dX2_init_80 (fun c => absurd c (by decide)) (fun _ => ?_)
  refine g_aloadn hX 1 rfl rfl dX2_init_83 ?_
  refine g_get (C := RX2) (T := TX2) (N := 10) hX inX2 0 rfl rfl 1 (by decide) wd_1_99 (fun _ h => h) rfl dX2_init_84 ?_
  refine g_iloadn hX 0 rfl rfl dX2_init_87 ?_
  refine g_aloadn hX 3 rfl rfl dX2_init_88 ?_
  refine g_iloadn hX 0 rfl rfl dX2_init_89 ?_
  refine g_eqW (app0 _) (g_callVs (pre := _) (mid := []) (post := []) [.int 6] hX hq (i := 1) (by decide) kw_RX2_J0_charAt_5068e (c_J0_charAt_5068e (by decide) (r := 99) (by decide +kernel)) (fun _ h => absurd h List.not_mem_nil) (by decide) (by decide) (by decide) rfl rfl (Nat.le_of_ble_eq_true rfl) dX2_init_90 (fun rv ws2 hp2 => ?_))
  obtain ⟨rfl, rfl⟩ := hp2
  refine g_eqW (app0 _).symm ?_
  refine g_ji2b hX dX2_init_93 ?_
  refine g_nm (y := 99) (x := ji2b 99) (by decide +kernel) ?_
  refine g_bast hX 1 rfl (vpc (by decide)) 6 (by decide) [(a, .inr (2, [.ref (X.E.aK 0), .ref q1, .int 9, .ref q1, .int 0, .int 0, .int 0, .int 0, .int 0, .int 0])), (q1, .inl (X.E.cB, 50, .inl (upd (upd (upd (upd (upd (upd (upd (fun _ => 0) 0 (Int8.toInt32 (Int32.toInt8 104))) 1 (Int8.toInt32 (Int32.toInt8 42))) 2 (Int8.toInt32 (Int32.toInt8 50))) 3 (Int8.toInt32 (Int32.toInt8 43))) 4 (Int8.toInt32 (Int32.toInt8 110))) 5 (Int8.toInt32 (Int32.toInt8 45))) 6 (Int8.toInt32 (Int32.toInt8 99)))))] rfl dX2_init_94 ?_
  refine g_iinc hX 0 (v := 7) [(3, .int 7), (0, .ref a), (1, .ref (X.E.aK 0)), (2, .ref (X.E.aK 1))] rfl (by decide) (by decide) rfl dX2_init_95 ?_
  refine g_goto hX 75 (by decide) dX2_init_98 ?_
  refine g_iloadn hX 0 rfl rfl dX2_init_75 ?_
  refine g_aloadn hX 1 rfl rfl dX2_init_76 ?_
  refine g_get (C := RX2) (T := TX2) (N := 10) hX inX2 0 rfl rfl 2 (by decide) wd_1_100 (fun _ h => h) rfl dX2_init_77 ?_
  refine g_icmp_ge hX 101 (by decide) dX2_init_80 (fun c => absurd c (by decide)) (fun _ => ?_)
  refine g_aloadn hX 1 rfl rfl dX2_init_83 ?_
  refine g_get (C := RX2) (T := TX2) (N := 10) hX inX2 0 rfl rfl 1 (by decide) wd_1_99 (fun _ h => h) rfl dX2_init_84 ?_
  refine g_iloadn hX 0 rfl rfl dX2_init_87 ?_
  refine g_aloadn hX 3 rfl rfl dX2_init_88 ?_
  refine g_iloadn hX 0 rfl rfl dX2_init_89 ?_
  refine g_eqW (app0 _) (g_callVs (pre := _) (mid := []) (post := []) [.int 7] hX hq (i := 1) (by decide) kw_RX2_J0_charAt_5068e (c_J0_charAt_5068e (by decide) (r := 42) (by decide +kernel)) (fun _ h => absurd h List.not_mem_nil) (by decide) (by decide) (by decide) rfl rfl (Nat.le_of_ble_eq_true rfl) dX2_init_90 (fun rv ws2 hp2 => ?_))
  obtain ⟨rfl, rfl⟩ := hp2
  refine g_eqW (app0 _).symm ?_
  refine g_ji2b hX dX2_init_93 ?_
  refine g_nm (y := 42) (x := ji2b 42) (by decide +kernel) ?_
  refine g_bast hX 1 rfl (vpc (by decide)) 7 (by decide) [(a, .inr (2, [.ref (X.E.aK 0), .ref q1, .int 9, .ref q1, .int 0, .int 0, .int 0, .int 0, .int 0, .int 0])), (q1, .inl (X.E.cB, 50, .inl (upd (upd (upd (upd (upd (upd (upd (upd (fun _ => 0) 0 (Int8.toInt32 (Int32.toInt8 104))) 1 (Int8.toInt32 (Int32.toInt8 42))) 2 (Int8.toInt32 (Int32.toInt8 50))) 3 (Int8.toInt32 (Int32.toInt8 43))) 4 (Int8.toInt32 (Int32.toInt8 110))) 5 (Int8.toInt32 (Int32.toInt8 45))) 6 (Int8.toInt32 (Int32.toInt8 99))) 7 (Int8.toInt32 (Int32.toInt8 42)))))] rfl dX2_init_94 ?_
  refine g_iinc hX 0 (v := 8) [(3, .int 8), (0, .ref a), (1, .ref (X.E.aK 0)), (2, .ref (X.E.aK 1))] rfl (by decide) (by decide) rfl dX2_init_95 ?_
  refine g_goto hX 75 (by decide) dX2_init_98 ?_
  refine g_iloadn hX 0 rfl rfl dX2_init_75 ?_
  refine g_aloadn hX 1 rfl rfl dX2_init_76 ?_
  refine g_get (C := RX2) (T := TX2) (N := 10) hX inX2 0 rfl rfl 2 (by decide) wd_1_100 (fun _ h => h) rfl dX2_init_77 ?_
  refine g_icmp_ge hX 101 (by decide) dX2_init_80 (fun c => absurd c (by decide)) (fun _ => ?_)
  refine g_aloadn hX 1 rfl rfl dX2_init_83 ?_
  refine g_get (C := RX2) (T := TX2) (N := 10) hX inX2 0 rfl rfl 1 (by decide) wd_1_99 (fun _ h => h) rfl dX2_init_84 ?_
  refine g_iloadn hX 0 rfl rfl dX2_init_87 ?_
  refine g_aloadn hX 3 rfl rfl dX2_init_88 ?_
  refine g_iloadn hX 0 rfl rfl dX2_init_89 ?_
  refine g_eqW (app0 _) (g_callVs (pre := _) (mid := []) (post := []) [.int 8] hX hq (i := 1) (by decide) kw_RX2_J0_charAt_5068e (c_J0_charAt_5068e (by decide) (r := 52) (by decide +kernel)) (fun _ h => absurd h List.not_mem_nil) (by decide) (by decide) (by decide) rfl rfl (Nat.le_of_ble_eq_true rfl) dX2_init_90 (fun rv ws2 hp2 => ?_))
  obtain ⟨rfl, rfl⟩ := hp2
  refine g_eqW (app0 _).symm ?_
  refine g_ji2b hX dX2_init_93 ?_
  refine g_nm (y := 52) (x := ji2b 52) (by decide +kernel) ?_
  refine g_bast hX 1 rfl (vpc (by decide)) 8 (by decide) [(a, .inr (2, [.ref (X.E.aK 0), .ref q1, .int 9, .ref q1, .int 0, .int 0, .int 0, .int 0, .int 0, .int 0])), (q1, .inl (X.E.cB, 50, .inl (upd (upd (upd (upd (upd (upd (upd (upd (upd (fun _ => 0) 0 (Int8.toInt32 (Int32.toInt8 104))) 1 (Int8.toInt32 (Int32.toInt8 42))) 2 (Int8.toInt32 (Int32.toInt8 50))) 3 (Int8.toInt32 (Int32.toInt8 43))) 4 (Int8.toInt32 (Int32.toInt8 110))) 5 (Int8.toInt32 (Int32.toInt8 45))) 6 (Int8.toInt32 (Int32.toInt8 99))) 7 (Int8.toInt32 (Int32.toInt8 42))) 8 (Int8.toInt32 (Int32.toInt8 52)))))] rfl dX2_init_94 ?_
  refine g_iinc hX 0 (v := 9) [(3, .int 9), (0, .ref a), (1, .ref (X.E.aK 0)), (2, .ref (X.E.aK 1))] rfl (by decide) (by decide) rfl dX2_init_95 ?_
  refine g_goto hX 75 (by decide) dX2_init_98 ?_
  refine g_iloadn hX 0 rfl rfl dX2_init_75 ?_
  refine g_aloadn hX 1 rfl rfl dX2_init_76 ?_
  refine g_get (C := RX2) (T := TX2) (N := 10) hX inX2 0 rfl rfl 2 (by decide) wd_1_100 (fun _ h => h) rfl dX2_init_77 ?_
  refine g_icmp_ge hX 101 (by decide) dX2_init_80 (fun _ => ?_) (fun c => absurd c (by decide))
  refine g_arrX 1 (g := txF 1) rfl (by decide +kernel) [(a, .inr (2, [.ref (X.E.aK 0), .ref q1, .int 9, .ref q1, .int 0, .int 0, .int 0, .int 0, .int 0, .int 0])), (q1, .inl (X.E.cB, 50, .inl (txF 1)))] rfl ?_
  exact g_vret hX hq (by decide) (by decide) ⟨rfl, _, rfl⟩ dX2_init_101)
set_option maxRecDepth 100000 in
set_option maxHeartbeats 8000000 in
theorem c_X2_init2 {l : Launch} {E : En} {a : Nat} : CP l E yX2_init cX2_init 4 none 5 1 50 [] [.ref a, .ref (E.aK 2), .ref (E.aK 3)] [(a, .inr (2, [.null, .null, .int 0, .null, .int 0, .int 0, .int 0, .int 0, .int 0, .int 0]))] (fun rv w => rv = none ∧ ∃ q1 : Nat, w = [(a, .inr (2, [.ref (E.aK 2), .ref q1, .int 7, .ref q1, .int 0, .int 0, .int 0, .int 0, .int 0, .int 0])), (q1, .inl (E.cB, 50, .inl (txF 3)))]) :=
  CP.of (lv := [(0, .ref a), (1, .ref (E.aK 2)), (2, .ref (E.aK 3))]) (by decide +kernel) (Nat.le_of_ble_eq_true rfl) rfl (fun X hl hE hro hX hq hn => by
  subst hl; subst hE
  refine g_aloadn hX 0 rfl rfl dX2_init_0 ?_
  refine g_objI hX hq wd_1_46 (by decide) (Nat.le_of_ble_eq_true rfl) dX2_init_1 ?_
  refine g_aloadn hX 0 rfl rfl dX2_init_4 ?_
  refine g_bipush hX (v := 50) (by decide) dX2_init_5 ?_
  refine g_newB hX hq wd_1_130 (N := 50) (by decide) (by decide) (Nat.le_of_ble_eq_true rfl) (by decide) (by decide) dX2_init_7 (fun q1 => ?_)
  refine g_eqW (ws2 := [(a, .inr (2, [.null, .null, .int 0, .null, .int 0, .int 0, .int 0, .int 0, .int 0, .int 0])), (q1, .inl (X.E.cB, 50, .inl (fun _ => 0)))]) rfl ?_
  refine g_putF (C := RX2) (T := TX2) (N := 10) (ty := (.array .byte)) hX hn inX2 tyX2 tyX2_ok nmX2 0 rfl rfl 1 (by decide) wd_1_99 (fun _ h => h) rfl rfl (by decide +kernel) rfl rfl (Nat.le_of_ble_eq_true rfl) [(a, .inr (2, [.null, .ref q1, .int 0, .null, .int 0, .int 0, .int 0, .int 0, .int 0, .int 0])), (q1, .inl (X.E.cB, 50, .inl (fun _ => 0)))] rfl dX2_init_9 ?_
  refine g_aloadn hX 0 rfl rfl dX2_init_12 ?_
  refine g_iconst hX (v := 0) (by decide) dX2_init_13 ?_
  refine g_put (C := RX2) (T := TX2) (N := 10) (ty := .int) hX inX2 tyX2 tyX2_ok nmX2 0 rfl rfl 2 (by decide) wd_1_100 (fun _ h => h) rfl (by decide +kernel) rfl rfl (Nat.le_of_ble_eq_true rfl) [(a, .inr (2, [.null, .ref q1, .int 0, .null, .int 0, .int 0, .int 0, .int 0, .int 0, .int 0])), (q1, .inl (X.E.cB, 50, .inl (fun _ => 0)))] rfl dX2_init_14 ?_
  refine g_aloadn hX 0 rfl rfl dX2_init_17 ?_
  refine g_aloadn hX 0 rfl rfl dX2_init_18 ?_
  refine g_get (C := RX2) (T := TX2) (N := 10) hX inX2 0 rfl rfl 1 (by decide) wd_1_99 (fun _ h => h) rfl dX2_init_19 ?_
  refine g_put (C := RX2) (T := TX2) (N := 10) (ty := (.array .byte)) hX inX2 tyX2 tyX2_ok nmX2 0 rfl rfl 3 (by decide) wd_1_101 (fun _ h => h) rfl (by decide +kernel) rfl rfl (Nat.le_of_ble_eq_true rfl) [(a, .inr (2, [.null, .ref q1, .int 0, .ref q1, .int 0, .int 0, .int 0, .int 0, .int 0, .int 0])), (q1, .inl (X.E.cB, 50, .inl (fun _ => 0)))] rfl dX2_init_22 ?_
  refine g_aloadn hX 0 rfl rfl dX2_init_25 ?_
  refine g_iconst hX (v := 0) (by decide) dX2_init_26 ?_
  refine g_put (C := RX2) (T := TX2) (N := 10) (ty := .int) hX inX2 tyX2 tyX2_ok nmX2 0 rfl rfl 4 (by decide) wd_1_102 (fun _ h => h) rfl (by decide +kernel) rfl rfl (Nat.le_of_ble_eq_true rfl) [(a, .inr (2, [.null, .ref q1, .int 0, .ref q1, .int 0, .int 0, .int 0, .int 0, .int 0, .int 0])), (q1, .inl (X.E.cB, 50, .inl (fun _ => 0)))] rfl dX2_init_27 ?_
  refine g_aloadn hX 0 rfl rfl dX2_init_30 ?_
  refine g_iconst hX (v := 0) (by decide) dX2_init_31 ?_
  refine g_put (C := RX2) (T := TX2) (N := 10) (ty := .int) hX inX2 tyX2 tyX2_ok nmX2 0 rfl rfl 5 (by decide) wd_1_103 (fun _ h => h) rfl (by decide +kernel) rfl rfl (Nat.le_of_ble_eq_true rfl) [(a, .inr (2, [.null, .ref q1, .int 0, .ref q1, .int 0, .int 0, .int 0, .int 0, .int 0, .int 0])), (q1, .inl (X.E.cB, 50, .inl (fun _ => 0)))] rfl dX2_init_32 ?_
  refine g_aloadn hX 0 rfl rfl dX2_init_35 ?_
  refine g_iconst hX (v := 0) (by decide) dX2_init_36 ?_
  refine g_put (C := RX2) (T := TX2) (N := 10) (ty := .boolean) hX inX2 tyX2 tyX2_ok nmX2 0 rfl rfl 6 (by decide) wd_1_104 (fun _ h => h) rfl (by decide +kernel) rfl rfl (Nat.le_of_ble_eq_true rfl) [(a, .inr (2, [.null, .ref q1, .int 0, .ref q1, .int 0, .int 0, .int 0, .int 0, .int 0, .int 0])), (q1, .inl (X.E.cB, 50, .inl (fun _ => 0)))] rfl dX2_init_37 ?_
  refine g_aloadn hX 0 rfl rfl dX2_init_40 ?_
  refine g_iconst hX (v := 0) (by decide) dX2_init_41 ?_
  refine g_put (C := RX2) (T := TX2) (N := 10) (ty := .int) hX inX2 tyX2 tyX2_ok nmX2 0 rfl rfl 7 (by decide) wd_1_105 (fun _ h => h) rfl (by decide +kernel) rfl rfl (Nat.le_of_ble_eq_true rfl) [(a, .inr (2, [.null, .ref q1, .int 0, .ref q1, .int 0, .int 0, .int 0, .int 0, .int 0, .int 0])), (q1, .inl (X.E.cB, 50, .inl (fun _ => 0)))] rfl dX2_init_42 ?_
  refine g_aloadn hX 0 rfl rfl dX2_init_45 ?_
  refine g_iconst hX (v := 0) (by decide) dX2_init_46 ?_
  refine g_put (C := RX2) (T := TX2) (N := 10) (ty := .int) hX inX2 tyX2 tyX2_ok nmX2 0 rfl rfl 8 (by decide) wd_1_106 (fun _ h => h) rfl (by decide +kernel) rfl rfl (Nat.le_of_ble_eq_true rfl) [(a, .inr (2, [.null, .ref q1, .int 0, .ref q1, .int 0, .int 0, .int 0, .int 0, .int 0, .int 0])), (q1, .inl (X.E.cB, 50, .inl (fun _ => 0)))] rfl dX2_init_47 ?_
  refine g_aloadn hX 0 rfl rfl dX2_init_50 ?_
  refine g_iconst hX (v := 0) (by decide) dX2_init_51 ?_
  refine g_put (C := RX2) (T := TX2) (N := 10) (ty := .int) hX inX2 tyX2 tyX2_ok nmX2 0 rfl rfl 9 (by decide) wd_1_107 (fun _ h => h) rfl (by decide +kernel) rfl rfl (Nat.le_of_ble_eq_true rfl) [(a, .inr (2, [.null, .ref q1, .int 0, .ref q1, .int 0, .int 0, .int 0, .int 0, .int 0, .int 0])), (q1, .inl (X.E.cB, 50, .inl (fun _ => 0)))] rfl dX2_init_52 ?_
  refine g_aloadn hX 0 rfl rfl dX2_init_55 ?_
  refine g_aloadn hX 1 rfl rfl dX2_init_56 ?_
  refine g_putF (C := RX2) (T := TX2) (N := 10) (ty := (.object "java/lang/String")) hX hn inX2 tyX2 tyX2_ok nmX2 0 rfl rfl 0 (by decide) wd_1_98 (fun _ h => h) rfl rfl (by decide +kernel) rfl rfl (Nat.le_of_ble_eq_true rfl) [(a, .inr (2, [.ref (X.E.aK 2), .ref q1, .int 0, .ref q1, .int 0, .int 0, .int 0, .int 0, .int 0, .int 0])), (q1, .inl (X.E.cB, 50, .inl (fun _ => 0)))] rfl dX2_init_57 ?_
  refine g_aloadn hX 0 rfl rfl dX2_init_60 ?_
  refine g_aloadn hX 2 rfl rfl dX2_init_61 ?_
  refine g_eqW (app0 _) (g_callVs (pre := _) (mid := []) (post := []) [] hX hq (i := 3) (by decide) kw_RX2_J0_length_8abf5 (c_J0_length_8abf5 (by decide) (r := 7) (by decide +kernel)) (fun _ h => absurd h List.not_mem_nil) (by decide) (by decide) (by decide) rfl rfl (Nat.le_of_ble_eq_true rfl) dX2_init_62 (fun rv ws2 hp2 => ?_))
  obtain ⟨rfl, rfl⟩ := hp2
  refine g_eqW (app0 _).symm ?_
  refine g_bipush hX (v := 50) (by decide) dX2_init_65 ?_
  refine g_jmin hX hq km_RX2_min (by decide) (by decide) (by decide) (Nat.le_of_ble_eq_true rfl) dX2_init_67 ?_
  refine g_nm (y := 7) (x := jmin 7 50) (by decide +kernel) ?_
  refine g_put (C := RX2) (T := TX2) (N := 10) (ty := .int) hX inX2 tyX2 tyX2_ok nmX2 0 rfl rfl 2 (by decide) wd_1_100 (fun _ h => h) rfl (by decide +kernel) rfl rfl (Nat.le_of_ble_eq_true rfl) [(a, .inr (2, [.ref (X.E.aK 2), .ref q1, .int 7, .ref q1, .int 0, .int 0, .int 0, .int 0, .int 0, .int 0])), (q1, .inl (X.E.cB, 50, .inl (fun _ => 0)))] rfl dX2_init_70 ?_
  refine g_iconst hX (v := 0) (by decide) dX2_init_73 ?_
  refine g_istoren hX [(3, .int 0), (0, .ref a), (1, .ref (X.E.aK 2)), (2, .ref (X.E.aK 3))] rfl (by decide) rfl dX2_init_74 ?_
  refine g_iloadn hX 0 rfl rfl dX2_init_75 ?_
  refine g_aloadn hX 1 rfl rfl dX2_init_76 ?_
  refine g_get (C := RX2) (T := TX2) (N := 10) hX inX2 0 rfl rfl 2 (by decide) wd_1_100 (fun _ h => h) rfl dX2_init_77 ?_
  refine g_icmp_ge hX 101 (by decide) dX2_init_80 (fun c => absurd c (by decide)) (fun _ => ?_)
  refine g_aloadn hX 1 rfl rfl dX2_init_83 ?_
  refine g_get (C := RX2) (T := TX2) (N := 10) hX inX2 0 rfl rfl 1 (by decide) wd_1_99 (fun _ h => h) rfl dX2_init_84 ?_
  refine g_iloadn hX 0 rfl rfl dX2_init_87 ?_
  refine g_aloadn hX 3 rfl rfl dX2_init_88 ?_
  refine g_iloadn hX 0 rfl rfl dX2_init_89 ?_
  refine g_eqW (app0 _) (g_callVs (pre := _) (mid := []) (post := []) [.int 0] hX hq (i := 3) (by decide) kw_RX2_J0_charAt_5068e (c_J0_charAt_5068e (by decide) (r := 115) (by decide +kernel)) (fun _ h => absurd h List.not_mem_nil) (by decide) (by decide) (by decide) rfl rfl (Nat.le_of_ble_eq_true rfl) dX2_init_90 (fun rv ws2 hp2 => ?_))
  obtain ⟨rfl, rfl⟩ := hp2
  refine g_eqW (app0 _).symm ?_
  refine g_ji2b hX dX2_init_93 ?_
  refine g_nm (y := 115) (x := ji2b 115) (by decide +kernel) ?_
  refine g_bast hX 1 rfl (vpc (by decide)) 0 (by decide) [(a, .inr (2, [.ref (X.E.aK 2), .ref q1, .int 7, .ref q1, .int 0, .int 0, .int 0, .int 0, .int 0, .int 0])), (q1, .inl (X.E.cB, 50, .inl (upd (fun _ => 0) 0 (Int8.toInt32 (Int32.toInt8 115)))))] rfl dX2_init_94 ?_
  refine g_iinc hX 0 (v := 1) [(3, .int 1), (0, .ref a), (1, .ref (X.E.aK 2)), (2, .ref (X.E.aK 3))] rfl (by decide) (by decide) rfl dX2_init_95 ?_
  refine g_goto hX 75 (by decide) dX2_init_98 ?_
  refine g_iloadn hX 0 rfl rfl dX2_init_75 ?_
  refine g_aloadn hX 1 rfl rfl dX2_init_76 ?_
  refine g_get (C := RX2) (T := TX2) (N := 10) hX inX2 0 rfl rfl 2 (by decide) wd_1_100 (fun _ h => h) rfl dX2_init_77 ?_
  refine g_icmp_ge hX 101 (by decide) dX2_init_80 (fun c => absurd c (by decide)) (fun _ => ?_)
  refine g_aloadn hX 1 rfl rfl dX2_init_83 ?_
  refine g_get (C := RX2) (T := TX2) (N := 10) hX inX2 0 rfl rfl 1 (by decide) wd_1_99 (fun _ h => h) rfl dX2_init_84 ?_
  refine g_iloadn hX 0 rfl rfl dX2_init_87 ?_
  refine g_aloadn hX 3 rfl rfl dX2_init_88 ?_
  refine g_iloadn hX 0 rfl rfl dX2_init_89 ?_
  refine g_eqW (app0 _) (g_callVs (pre := _) (mid := []) (post := []) [.int 1] hX hq (i := 3) (by decide) kw_RX2_J0_charAt_5068e (c_J0_charAt_5068e (by decide) (r := 47) (by decide +kernel)) (fun _ h => absurd h List.not_mem_nil) (by decide) (by decide) (by decide) rfl rfl (Nat.le_of_ble_eq_true rfl) dX2_init_90 (fun rv ws2 hp2 => ?_))
  obtain ⟨rfl, rfl⟩ := hp2
  refine g_eqW (app0 _).symm ?_
  refine g_ji2b hX dX2_init_93 ?_
  refine g_nm (y := 47) (x := ji2b 47) (by decide +kernel) ?_
  refine g_bast hX 1 rfl (vpc (by decide)) 1 (by decide) [(a, .inr (2, [.ref (X.E.aK 2), .ref q1, .int 7, .ref q1, .int 0, .int 0, .int 0, .int 0, .int 0, .int 0])), (q1, .inl (X.E.cB, 50, .inl (upd (upd (fun _ => 0) 0 (Int8.toInt32 (Int32.toInt8 115))) 1 (Int8.toInt32 (Int32.toInt8 47)))))] rfl dX2_init_94 ?_
  refine g_iinc hX 0 (v := 2) [(3, .int 2), (0, .ref a), (1, .ref (X.E.aK 2)), (2, .ref (X.E.aK 3))] rfl (by decide) (by decide) rfl dX2_init_95 ?_
  refine g_goto hX 75 (by decide) dX2_init_98 ?_
  refine g_iloadn hX 0 rfl rfl dX2_init_75 ?_
  refine g_aloadn hX 1 rfl rfl dX2_init_76 ?_
  refine g_get (C := RX2) (T := TX2) (N := 10) hX inX2 0 rfl rfl 2 (by decide) wd_1_100 (fun _ h => h) rfl dX2_init_77 ?_
  refine g_icmp_ge hX 101 (by decide) dX2_init_80 (fun c => absurd c (by decide)) (fun _ => ?_)
  refine g_aloadn hX 1 rfl rfl dX2_init_83 ?_
  refine g_get (C := RX2) (T := TX2) (N := 10) hX inX2 0 rfl rfl 1 (by decide) wd_1_99 (fun _ h => h) rfl dX2_init_84 ?_
  refine g_iloadn hX 0 rfl rfl dX2_init_87 ?_
  refine g_aloadn hX 3 rfl rfl dX2_init_88 ?_
  refine g_iloadn hX 0 rfl rfl dX2_init_89 ?_
  refine g_eqW (app0 _) (g_callVs (pre := _) (mid := []) (post := []) [.int 2] hX hq (i := 3) (by decide) kw_RX2_J0_charAt_5068e (c_J0_charAt_5068e (by decide) (r := 107) (by decide +kernel)) (fun _ h => absurd h List.not_mem_nil) (by decide) (by decide) (by decide) rfl rfl (Nat.le_of_ble_eq_true rfl) dX2_init_90 (fun rv ws2 hp2 => ?_))
  obtain ⟨rfl, rfl⟩ := hp2
  refine g_eqW (app0 _).symm ?_
  refine g_ji2b hX dX2_init_93 ?_
  refine g_nm (y := 107) (x := ji2b 107) (by decide +kernel) ?_
  refine g_bast hX 1 rfl (vpc (by decide)) 2 (by decide) [(a, .inr (2, [.ref (X.E.aK 2), .ref q1, .int 7, .ref q1, .int 0, .int 0, .int 0, .int 0, .int 0, .int 0])), (q1, .inl (X.E.cB, 50, .inl (upd (upd (upd (fun _ => 0) 0 (Int8.toInt32 (Int32.toInt8 115))) 1 (Int8.toInt32 (Int32.toInt8 47))) 2 (Int8.toInt32 (Int32.toInt8 107)))))] rfl dX2_init_94 ?_
  refine g_iinc hX 0 (v := 3) [(3, .int 3), (0, .ref a), (1, .ref (X.E.aK 2)), (2, .ref (X.E.aK 3))] rfl (by decide) (by decide) rfl dX2_init_95 ?_
  refine g_goto hX 75 (by decide) dX2_init_98 ?_
  refine g_iloadn hX 0 rfl rfl dX2_init_75 ?_
  refine g_aloadn hX 1 rfl rfl dX2_init_76 ?_
  refine g_get (C := RX2) (T := TX2) (N := 10) hX inX2 0 rfl rfl 2 (by decide) wd_1_100 (fun _ h => h) rfl dX2_init_77 ?_
  refine g_icmp_ge hX 101 (by decide) dX2_init_80 (fun c => absurd c (by decide)) (fun _ => ?_)
  refine g_aloadn hX 1 rfl rfl dX2_init_83 ?_
  refine g_get (C := RX2) (T := TX2) (N := 10) hX inX2 0 rfl rfl 1 (by decide) wd_1_99 (fun _ h => h) rfl dX2_init_84 ?_
  refine g_iloadn hX 0 rfl rfl dX2_init_87 ?_
  refine g_aloadn hX 3 rfl rfl dX2_init_88 ?_
  refine g_iloadn hX 0 rfl rfl dX2_init_89 ?_
  refine g_eqW (app0 _) (g_callVs (pre := _) (mid := []) (post := []) [.int 3] hX hq (i := 3) (by decide) kw_RX2_J0_charAt_5068e (c_J0_charAt_5068e (by decide) (r := 45) (by decide +kernel)) (fun _ h => absurd h List.not_mem_nil) (by decide) (by decide) (by decide) rfl rfl (Nat.le_of_ble_eq_true rfl) dX2_init_90 (fun rv ws2 hp2 => ?_))
  obtain ⟨rfl, rfl⟩ := hp2
  refine g_eqW (app0 _).symm ?_
  refine g_ji2b hX dX2_init_93 ?_
  refine g_nm (y := 45) (x := ji2b 45) (by decide +kernel) ?_
  refine g_bast hX 1 rfl (vpc (by decide)) 3 (by decide) [(a, .inr (2, [.ref (X.E.aK 2), .ref q1, .int 7, .ref q1, .int 0, .int 0, .int 0, .int 0, .int 0, .int 0])), (q1, .inl (X.E.cB, 50, .inl (upd (upd (upd (upd (fun _ => 0) 0 (Int8.toInt32 (Int32.toInt8 115))) 1 (Int8.toInt32 (Int32.toInt8 47))) 2 (Int8.toInt32 (Int32.toInt8 107))) 3 (Int8.toInt32 (Int32.toInt8 45)))))] rfl dX2_init_94 ?_
  refine g_iinc hX 0 (v := 4) [(3, .int 4), (0, .ref a), (1, .ref (X.E.aK 2)), (2, .ref (X.E.aK 3))] rfl (by decide) (by decide) rfl dX2_init_95 ?_
  refine g_goto hX 75 (by decide) dX2_init_98 ?_
  refine g_iloadn hX 0 rfl rfl dX2_init_75 ?_
  refine g_aloadn hX 1 rfl rfl dX2_init_76 ?_
  refine g_get (C := RX2) (T := TX2) (N := 10) hX inX2 0 rfl rfl 2 (by decide) wd_1_100 (fun _ h => h) rfl dX2_init_77 ?_
  refine g_icmp_ge hX 101 (by decide) dX2_init_80 (fun c => absurd c (by decide)) (fun _ => ?_)
  refine g_aloadn hX 1 rfl rfl dX2_init_83 ?_
  refine g_get (C := RX2) (T := TX2) (N := 10) hX inX2 0 rfl rfl 1 (by decide) wd_1_99 (fun _ h => h) rfl dX2_init_84 ?_
  refine g_iloadn hX 0 rfl rfl dX2_init_87 ?_
  refine g_aloadn hX 3 rfl rfl dX2_init_88 ?_
  refine g_iloadn hX 0 rfl rfl dX2_init_89 ?_
  refine g_eqW (app0 _) (g_callVs (pre := _) (mid := []) (post := []) [.int 4] hX hq (i := 3) (by decide) kw_RX2_J0_charAt_5068e (c_J0_charAt_5068e (by decide) (r := 100) (by decide +kernel)) (fun _ h => absurd h List.not_mem_nil) (by decide) (by decide) (by decide) rfl rfl (Nat.le_of_ble_eq_true rfl) dX2_init_90 (fun rv ws2 hp2 => ?_))
  obtain ⟨rfl, rfl⟩ := hp2
  refine g_eqW (app0 _).symm ?_
  refine g_ji2b hX dX2_init_93 ?_
  refine g_nm (y := 100) (x := ji2b 100) (by decide +kernel) ?_
  refine g_bast hX 1 rfl (vpc (by decide)) 4 (by decide) [(a, .inr (2, [.ref (X.E.aK 2), .ref q1, .int 7, .ref q1, .int 0, .int 0, .int 0, .int 0, .int 0, .int 0])), (q1, .inl (X.E.cB, 50, .inl (upd (upd (upd (upd (upd (fun _ => 0) 0 (Int8.toInt32 (Int32.toInt8 115))) 1 (Int8.toInt32 (Int32.toInt8 47))) 2 (Int8.toInt32 (Int32.toInt8 107))) 3 (Int8.toInt32 (Int32.toInt8 45))) 4 (Int8.toInt32 (Int32.toInt8 100)))))] rfl dX2_init_94 ?_
  refine g_iinc hX 0 (v := 5) [(3, .int 5), (0, .ref a), (1, .ref (X.E.aK 2)), (2, .ref (X.E.aK 3))] rfl (by decide) (by decide) rfl dX2_init_95 ?_
  refine g_goto hX 75 (by decide) dX2_init_98 ?_
  refine g_iloadn hX 0 rfl rfl dX2_init_75 ?_
  refine g_aloadn hX 1 rfl rfl dX2_init_76 ?_
  refine g_get (C := RX2) (T := TX2) (N := 10) hX inX2 0 rfl rfl 2 (by decide) wd_1_100 (fun _ h => h) rfl dX2_init_77 ?_
  refine g_icmp_ge hX 101 (by decide) dX2_init_80 (fun c => absurd c (by decide)) (fun _ => ?_)
  refine g_aloadn hX 1 rfl rfl dX2_init_83 ?_
  refine g_get (C := RX2) (T := TX2) (N := 10) hX inX2 0 rfl rfl 1 (by decide) wd_1_99 (fun _ h => h) rfl dX2_init_84 ?_
  refine g_iloadn hX 0 rfl rfl dX2_init_87 ?_
  refine g_aloadn hX 3 rfl rfl dX2_init_88 ?_
  refine g_iloadn hX 0 rfl rfl dX2_init_89 ?_
  refine g_eqW (app0 _) (g_callVs (pre := _) (mid := []) (post := []) [.int 5] hX hq (i := 3) (by decide) kw_RX2_J0_charAt_5068e (c_J0_charAt_5068e (by decide) (r := 42) (by decide +kernel)) (fun _ h => absurd h List.not_mem_nil) (by decide) (by decide) (by decide) rfl rfl (Nat.le_of_ble_eq_true rfl) dX2_init_90 (fun rv ws2 hp2 => ?_))
  obtain ⟨rfl, rfl⟩ := hp2
  refine g_eqW (app0 _).symm ?_
  refine g_ji2b hX dX2_init_93 ?_
  refine g_nm (y := 42) (x := ji2b 42) (by decide +kernel) ?_
  refine g_bast hX 1 rfl (vpc (by decide)) 5 (by decide) [(a, .inr (2, [.ref (X.E.aK 2), .ref q1, .int 7, .ref q1, .int 0, .int 0, .int 0, .int 0, .int 0, .int 0])), (q1, .inl (X.E.cB, 50, .inl (upd (upd (upd (upd (upd (upd (fun _ => 0) 0 (Int8.toInt32 (Int32.toInt8 115))) 1 (Int8.toInt32 (Int32.toInt8 47))) 2 (Int8.toInt32 (Int32.toInt8 107))) 3 (Int8.toInt32 (Int32.toInt8 45))) 4 (Int8.toInt32 (Int32.toInt8 100))) 5 (Int8.toInt32 (Int32.toInt8 42)))))] rfl dX2_init_94 ?_
  refine g_iinc hX 0 (v := 6) [(3, .int 6), (0, .ref a), (1, .ref (X.E.aK 2)), (2, .ref (X.E.aK 3))] rfl (by decide) (by decide) rfl dX2_init_95 ?_
  refine g_goto hX 75 (by decide) dX2_init_98 ?_
  refine g_iloadn hX 0 rfl rfl dX2_init_75 ?_
  refine g_aloadn hX 1 rfl rfl dX2_init_76 ?_
  refine g_get (C := RX2) (T := TX2) (N := 10) hX inX2 0 rfl rfl 2 (by decide) wd_1_100 (fun _ h => h) rfl dX2_init_77 ?_
  refine g_icmp_ge hX 101 (by decide) dX2_init_80 (fun c => absurd c (by decide)) (fun _ => ?_)
  refine g_aloadn hX 1 rfl rfl dX2_init_83 ?_
  refine g_get (C := RX2) (T := TX2) (N := 10) hX inX2 0 rfl rfl 1 (by decide) wd_1_99 (fun _ h => h) rfl dX2_init_84 ?_
  refine g_iloadn hX 0 rfl rfl dX2_init_87 ?_
  refine g_aloadn hX 3 rfl rfl dX2_init_88 ?_
  refine g_iloadn hX 0 rfl rfl dX2_init_89 ?_
  refine g_eqW (app0 _) (g_callVs (pre := _) (mid := []) (post := []) [.int 6] hX hq (i := 3) (by decide) kw_RX2_J0_charAt_5068e (c_J0_charAt_5068e (by decide) (r := 50) (by decide +kernel)) (fun _ h => absurd h List.not_mem_nil) (by decide) (by decide) (by decide) rfl rfl (Nat.le_of_ble_eq_true rfl) dX2_init_90 (fun rv ws2 hp2 => ?_))
  obtain ⟨rfl, rfl⟩ := hp2
  refine g_eqW (app0 _).symm ?_
  refine g_ji2b hX dX2_init_93 ?_
  refine g_nm (y := 50) (x := ji2b 50) (by decide +kernel) ?_
  refine g_bast hX 1 rfl (vpc (by decide)) 6 (by decide) [(a, .inr (2, [.ref (X.E.aK 2), .ref q1, .int 7, .ref q1, .int 0, .int 0, .int 0, .int 0, .int 0, .int 0])), (q1, .inl (X.E.cB, 50, .inl (upd (upd (upd (upd (upd (upd (upd (fun _ => 0) 0 (Int8.toInt32 (Int32.toInt8 115))) 1 (Int8.toInt32 (Int32.toInt8 47))) 2 (Int8.toInt32 (Int32.toInt8 107))) 3 (Int8.toInt32 (Int32.toInt8 45))) 4 (Int8.toInt32 (Int32.toInt8 100))) 5 (Int8.toInt32 (Int32.toInt8 42))) 6 (Int8.toInt32 (Int32.toInt8 50)))))] rfl dX2_init_94 ?_
  refine g_iinc hX 0 (v := 7) [(3, .int 7), (0, .ref a), (1, .ref (X.E.aK 2)), (2, .ref (X.E.aK 3))] rfl (by decide) (by decide) rfl dX2_init_95 ?_
  refine g_goto hX 75 (by decide) dX2_init_98 ?_
  refine g_iloadn hX 0 rfl rfl dX2_init_75 ?_
  refine g_aloadn hX 1 rfl rfl dX2_init_76 ?_
  refine g_get (C := RX2) (T := TX2) (N := 10) hX inX2 0 rfl rfl 2 (by decide) wd_1_100 (fun _ h => h) rfl dX2_init_77 ?_
  refine g_icmp_ge hX 101 (by decide) dX2_init_80 (fun _ => ?_) (fun c => absurd c (by decide))
  refine g_arrX 1 (g := txF 3) rfl (by decide +kernel) [(a, .inr (2, [.ref (X.E.aK 2), .ref q1, .int 7, .ref q1, .int 0, .int 0, .int 0, .int 0, .int 0, .int 0])), (q1, .inl (X.E.cB, 50, .inl (txF 3)))] rfl ?_
  exact g_vret hX hq (by decide) (by decide) ⟨rfl, _, rfl⟩ dX2_init_101)
