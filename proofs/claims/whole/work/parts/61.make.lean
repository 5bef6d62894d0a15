/-! CONSTRUCTORS -/
abbrev gb_t (K4 : ClassId × ClassId × ClassId × ClassId) : List (ClassId × FieldType) := [(K4.1, .int), (K4.2.1, .boolean), (K4.2.2.1, .object "ForestPacker$Packing"), (K4.2.2.2, .object "ForestPacker$RootedForest")]
abbrev gb_r (K4 : ClassId × ClassId × ClassId × ClassId) (n : Nat) : va_E := .inl (K4.1, n, .inl (fun _ => 0))
abbrev gb_z (K4 : ClassId × ClassId × ClassId × ClassId) (n : Nat) : va_E := .inl (K4.2.1, n, .inl (fun _ => 0))
set_option maxHeartbeats 4000000 in
set_option maxRecDepth 100000 in
theorem c_X0_init (l : Launch) (D : va_G) (K4 : ClassId × ClassId × ClassId × ClassId) (h0 : Nat) : gb_M l D (gb_t K4) yX0_init (.code yX0_init cX0_init 1 none :: gw_T) { frames := 1, cells := 2, slots := 48, locals := 20 } h0 [] (.inr (0, [.null, .null, .int 0, .int 0])) (Nat × Nat) (fun u => [(h0, .inr (0, [.ref u.1, .ref u.2, .int 0, .int 1])), (u.1, gb_r K4 24), (u.2, gb_r K4 24)]) := by
  refine gb_enter RX0 (by decide +kernel) rfl rfl rfl (Nat.le_of_ble_eq_true rfl) (gm_c1_ok rfl) ?_
  intro X hC hI hR
  show gb_G X D 1 0 [some (.ref h0)] [] 0 0 ([(h0, .inr (0, [.null, .null, .int 0, .int 0]))])
  refine gb_aldn hC dX0_init_0 rfl ?_
  refine gb_objInit hC gw_44 (by decide) (Nat.le_of_ble_eq_true rfl) dX0_init_1 ?_
  refine gb_aldn hC dX0_init_4 rfl ?_
  refine gb_bipush hC (v := 24) dX0_init_5 (by decide) ?_
  refine gb_newI (t0 := 0) (N := 24) hC rfl (by decide) (by decide) (by decide) dX0_init_7 (fun q0 => ?_)
  show gb_G X D 1 9 [some (.ref h0)] [.ref q0, .ref h0] 1 24 ([(h0, .inr (0, [.null, .null, .int 0, .int 0])), (q0, .inl (K4.1, 24, .inl (fun _ => 0)))])
  refine gb_putF (ty := .array .int) hC hI 0 rfl (C := RX0) (T := TX0) (N := 4) rfl fW_G tyX0 tyX0_ok nmX0 0 (by decide) gw_45 rfl rfl (by decide +kernel) rfl rfl (Nat.le_of_ble_eq_true rfl) dX0_init_9 ?_
  show gb_G X D 1 12 [some (.ref h0)] [] 1 24 ([(h0, .inr (0, [.ref q0, .null, .int 0, .int 0])), (q0, .inl (K4.1, 24, .inl (fun _ => 0)))])
  refine gb_aldn hC dX0_init_12 rfl ?_
  refine gb_bipush hC (v := 24) dX0_init_13 (by decide) ?_
  refine gb_newI (t0 := 0) (N := 24) hC rfl (by decide) (by decide) (by decide) dX0_init_15 (fun q1 => ?_)
  show gb_G X D 1 17 [some (.ref h0)] [.ref q1, .ref h0] 2 48 ([(h0, .inr (0, [.ref q0, .null, .int 0, .int 0])), (q0, .inl (K4.1, 24, .inl (fun _ => 0))), (q1, .inl (K4.1, 24, .inl (fun _ => 0)))])
  refine gb_putF (ty := .array .int) hC hI 0 rfl (C := RX0) (T := TX0) (N := 4) rfl fW_G tyX0 tyX0_ok nmX0 1 (by decide) gw_48 rfl rfl (by decide +kernel) rfl rfl (Nat.le_of_ble_eq_true rfl) dX0_init_17 ?_
  show gb_G X D 1 20 [some (.ref h0)] [] 2 48 ([(h0, .inr (0, [.ref q0, .ref q1, .int 0, .int 0])), (q0, .inl (K4.1, 24, .inl (fun _ => 0))), (q1, .inl (K4.1, 24, .inl (fun _ => 0)))])
  refine gb_aldn hC dX0_init_20 rfl ?_
  refine gb_const hC (v := 0) dX0_init_21 (by decide) ?_
  refine gb_put (ty := .int) hC 0 rfl (C := RX0) (T := TX0) (N := 4) rfl fW_G tyX0 tyX0_ok nmX0 2 (by decide) gw_51 rfl (by decide +kernel) (by decide +kernel) (by decide +kernel) (Nat.le_of_ble_eq_true rfl) dX0_init_22 ?_
  show gb_G X D 1 25 [some (.ref h0)] [] 2 48 ([(h0, .inr (0, [.ref q0, .ref q1, .int 0, .int 0])), (q0, .inl (K4.1, 24, .inl (fun _ => 0))), (q1, .inl (K4.1, 24, .inl (fun _ => 0)))])
  refine gb_aldn hC dX0_init_25 rfl ?_
  refine gb_const hC (v := 1) dX0_init_26 (by decide) ?_
  refine gb_put (ty := .int) hC 0 rfl (C := RX0) (T := TX0) (N := 4) rfl fW_G tyX0 tyX0_ok nmX0 3 (by decide) gw_53 rfl (by decide +kernel) (by decide +kernel) (by decide +kernel) (Nat.le_of_ble_eq_true rfl) dX0_init_27 ?_
  show gb_G X D 1 30 [some (.ref h0)] [] 2 48 ([(h0, .inr (0, [.ref q0, .ref q1, .int 0, .int 1])), (q0, .inl (K4.1, 24, .inl (fun _ => 0))), (q1, .inl (K4.1, 24, .inl (fun _ => 0)))])
  exact hR (q0, q1) _ _ dX0_init_30
set_option maxHeartbeats 4000000 in
set_option maxRecDepth 100000 in
theorem c_X2_init (l : Launch) (D : va_G) (K4 : ClassId × ClassId × ClassId × ClassId) (h0 : Nat) : gb_M l D (gb_t K4) yX2_init (.code yX2_init cX2_init 1 none :: gw_T) { frames := 1, cells := 2, slots := 20, locals := 20 } h0 [] (.inr (2, [.null, .null])) (Nat × Nat) (fun u => [(h0, .inr (2, [.ref u.1, .ref u.2])), (u.1, gb_r K4 10), (u.2, gb_r K4 10)]) := by
  refine gb_enter RX2 (by decide +kernel) rfl rfl rfl (Nat.le_of_ble_eq_true rfl) (gm_c1_ok rfl) ?_
  intro X hC hI hR
  show gb_G X D 1 0 [some (.ref h0)] [] 0 0 ([(h0, .inr (2, [.null, .null]))])
  refine gb_aldn hC dX2_init_0 rfl ?_
  refine gb_objInit hC gw_81 (by decide) (Nat.le_of_ble_eq_true rfl) dX2_init_1 ?_
  refine gb_aldn hC dX2_init_4 rfl ?_
  refine gb_bipush hC (v := 10) dX2_init_5 (by decide) ?_
  refine gb_newI (t0 := 0) (N := 10) hC rfl (by decide) (by decide) (by decide) dX2_init_7 (fun q0 => ?_)
  show gb_G X D 1 9 [some (.ref h0)] [.ref q0, .ref h0] 1 10 ([(h0, .inr (2, [.null, .null])), (q0, .inl (K4.1, 10, .inl (fun _ => 0)))])
  refine gb_putF (ty := .array .int) hC hI 0 rfl (C := RX2) (T := TX2) (N := 2) rfl fW_F tyX2 tyX2_ok nmX2 0 (by decide) gw_82 rfl rfl (by decide +kernel) rfl rfl (Nat.le_of_ble_eq_true rfl) dX2_init_9 ?_
  show gb_G X D 1 12 [some (.ref h0)] [] 1 10 ([(h0, .inr (2, [.ref q0, .null])), (q0, .inl (K4.1, 10, .inl (fun _ => 0)))])
  refine gb_aldn hC dX2_init_12 rfl ?_
  refine gb_bipush hC (v := 10) dX2_init_13 (by decide) ?_
  refine gb_newI (t0 := 0) (N := 10) hC rfl (by decide) (by decide) (by decide) dX2_init_15 (fun q1 => ?_)
  show gb_G X D 1 17 [some (.ref h0)] [.ref q1, .ref h0] 2 20 ([(h0, .inr (2, [.ref q0, .null])), (q0, .inl (K4.1, 10, .inl (fun _ => 0))), (q1, .inl (K4.1, 10, .inl (fun _ => 0)))])
  refine gb_putF (ty := .array .int) hC hI 0 rfl (C := RX2) (T := TX2) (N := 2) rfl fW_F tyX2 tyX2_ok nmX2 1 (by decide) gw_83 rfl rfl (by decide +kernel) rfl rfl (Nat.le_of_ble_eq_true rfl) dX2_init_17 ?_
  show gb_G X D 1 20 [some (.ref h0)] [] 2 20 ([(h0, .inr (2, [.ref q0, .ref q1])), (q0, .inl (K4.1, 10, .inl (fun _ => 0))), (q1, .inl (K4.1, 10, .inl (fun _ => 0)))])
  exact hR (q0, q1) _ _ dX2_init_20
set_option maxHeartbeats 4000000 in
set_option maxRecDepth 100000 in
theorem c_X4_init (l : Launch) (D : va_G) (K4 : ClassId × ClassId × ClassId × ClassId) (h0 : Nat) : gb_M l D (gb_t K4) yX4_init (.code yX4_init cX4_init 1 none :: gw_T) { frames := 1, cells := 9, slots := 226, locals := 20 } h0 [] (.inr (4, [.int 0, .null, .null, .int 0, .null, .null, .null, .null, .null, .null, .null])) (Nat × Nat × Nat × Nat × Nat × Nat × Nat × Nat × Nat) (fun u => [(h0, .inr (4, [.int 1, .ref u.1, .ref u.2.1, .int 0, .ref u.2.2.1, .ref u.2.2.2.1, .ref u.2.2.2.2.1, .ref u.2.2.2.2.2.1, .ref u.2.2.2.2.2.2.1, .ref u.2.2.2.2.2.2.2.1, .ref u.2.2.2.2.2.2.2.2])), (u.1, gb_r K4 48), (u.2.1, gb_z K4 24), (u.2.2.1, gb_r K4 24), (u.2.2.2.1, gb_z K4 24), (u.2.2.2.2.1, gb_r K4 24), (u.2.2.2.2.2.1, gb_r K4 24), (u.2.2.2.2.2.2.1, gb_r K4 24), (u.2.2.2.2.2.2.2.1, gb_r K4 10), (u.2.2.2.2.2.2.2.2, gb_r K4 24)]) := by
  refine gb_enter RX4 (by decide +kernel) rfl rfl rfl (Nat.le_of_ble_eq_true rfl) (gm_c1_ok rfl) ?_
  intro X hC hI hR
  show gb_G X D 1 0 [some (.ref h0)] [] 0 0 ([(h0, .inr (4, [.int 0, .null, .null, .int 0, .null, .null, .null, .null, .null, .null, .null]))])
  refine gb_aldn hC dX4_init_0 rfl ?_
  refine gb_objInit hC gw_315 (by decide) (Nat.le_of_ble_eq_true rfl) dX4_init_1 ?_
  refine gb_aldn hC dX4_init_4 rfl ?_
  refine gb_const hC (v := 1) dX4_init_5 (by decide) ?_
  refine gb_put (ty := .int) hC 0 rfl (C := RX4) (T := TX4) (N := 11) rfl fW_M tyX4 tyX4_ok nmX4 0 (by decide) gw_316 rfl (by decide +kernel) (by decide +kernel) (by decide +kernel) (Nat.le_of_ble_eq_true rfl) dX4_init_6 ?_
  show gb_G X D 1 9 [some (.ref h0)] [] 0 0 ([(h0, .inr (4, [.int 1, .null, .null, .int 0, .null, .null, .null, .null, .null, .null, .null]))])
  refine gb_aldn hC dX4_init_9 rfl ?_
  refine gb_bipush hC (v := 48) dX4_init_10 (by decide) ?_
  refine gb_newI (t0 := 0) (N := 48) hC rfl (by decide) (by decide) (by decide) dX4_init_12 (fun q0 => ?_)
  show gb_G X D 1 14 [some (.ref h0)] [.ref q0, .ref h0] 1 48 ([(h0, .inr (4, [.int 1, .null, .null, .int 0, .null, .null, .null, .null, .null, .null, .null])), (q0, .inl (K4.1, 48, .inl (fun _ => 0)))])
  refine gb_putF (ty := .array .int) hC hI 0 rfl (C := RX4) (T := TX4) (N := 11) rfl fW_M tyX4 tyX4_ok nmX4 1 (by decide) gw_317 rfl rfl (by decide +kernel) rfl rfl (Nat.le_of_ble_eq_true rfl) dX4_init_14 ?_
  show gb_G X D 1 17 [some (.ref h0)] [] 1 48 ([(h0, .inr (4, [.int 1, .ref q0, .null, .int 0, .null, .null, .null, .null, .null, .null, .null])), (q0, .inl (K4.1, 48, .inl (fun _ => 0)))])
  refine gb_aldn hC dX4_init_17 rfl ?_
  refine gb_bipush hC (v := 24) dX4_init_18 (by decide) ?_
  refine gb_newZ (t0 := 1) (N := 24) hC rfl (by decide) (by decide) (by decide) dX4_init_20 (fun q1 => ?_)
  show gb_G X D 1 22 [some (.ref h0)] [.ref q1, .ref h0] 2 72 ([(h0, .inr (4, [.int 1, .ref q0, .null, .int 0, .null, .null, .null, .null, .null, .null, .null])), (q0, .inl (K4.1, 48, .inl (fun _ => 0))), (q1, .inl (K4.2.1, 24, .inl (fun _ => 0)))])
  refine gb_putF (ty := .array .boolean) hC hI 0 rfl (C := RX4) (T := TX4) (N := 11) rfl fW_M tyX4 tyX4_ok nmX4 2 (by decide) gw_318 rfl rfl (by decide +kernel) rfl rfl (Nat.le_of_ble_eq_true rfl) dX4_init_22 ?_
  show gb_G X D 1 25 [some (.ref h0)] [] 2 72 ([(h0, .inr (4, [.int 1, .ref q0, .ref q1, .int 0, .null, .null, .null, .null, .null, .null, .null])), (q0, .inl (K4.1, 48, .inl (fun _ => 0))), (q1, .inl (K4.2.1, 24, .inl (fun _ => 0)))])
  refine gb_aldn hC dX4_init_25 rfl ?_
  refine gb_bipush hC (v := 24) dX4_init_26 (by decide) ?_
  refine gb_newI (t0 := 0) (N := 24) hC rfl (by decide) (by decide) (by decide) dX4_init_28 (fun q2 => ?_)
  show gb_G X D 1 30 [some (.ref h0)] [.ref q2, .ref h0] 3 96 ([(h0, .inr (4, [.int 1, .ref q0, .ref q1, .int 0, .null, .null, .null, .null, .null, .null, .null])), (q0, .inl (K4.1, 48, .inl (fun _ => 0))), (q1, .inl (K4.2.1, 24, .inl (fun _ => 0))), (q2, .inl (K4.1, 24, .inl (fun _ => 0)))])
  refine gb_putF (ty := .array .int) hC hI 0 rfl (C := RX4) (T := TX4) (N := 11) rfl fW_M tyX4 tyX4_ok nmX4 4 (by decide) gw_320 rfl rfl (by decide +kernel) rfl rfl (Nat.le_of_ble_eq_true rfl) dX4_init_30 ?_
  show gb_G X D 1 33 [some (.ref h0)] [] 3 96 ([(h0, .inr (4, [.int 1, .ref q0, .ref q1, .int 0, .ref q2, .null, .null, .null, .null, .null, .null])), (q0, .inl (K4.1, 48, .inl (fun _ => 0))), (q1, .inl (K4.2.1, 24, .inl (fun _ => 0))), (q2, .inl (K4.1, 24, .inl (fun _ => 0)))])
  refine gb_aldn hC dX4_init_33 rfl ?_
  refine gb_bipush hC (v := 24) dX4_init_34 (by decide) ?_
  refine gb_newZ (t0 := 1) (N := 24) hC rfl (by decide) (by decide) (by decide) dX4_init_36 (fun q3 => ?_)
  show gb_G X D 1 38 [some (.ref h0)] [.ref q3, .ref h0] 4 120 ([(h0, .inr (4, [.int 1, .ref q0, .ref q1, .int 0, .ref q2, .null, .null, .null, .null, .null, .null])), (q0, .inl (K4.1, 48, .inl (fun _ => 0))), (q1, .inl (K4.2.1, 24, .inl (fun _ => 0))), (q2, .inl (K4.1, 24, .inl (fun _ => 0))), (q3, .inl (K4.2.1, 24, .inl (fun _ => 0)))])
  refine gb_putF (ty := .array .boolean) hC hI 0 rfl (C := RX4) (T := TX4) (N := 11) rfl fW_M tyX4 tyX4_ok nmX4 5 (by decide) gw_321 rfl rfl (by decide +kernel) rfl rfl (Nat.le_of_ble_eq_true rfl) dX4_init_38 ?_
  show gb_G X D 1 41 [some (.ref h0)] [] 4 120 ([(h0, .inr (4, [.int 1, .ref q0, .ref q1, .int 0, .ref q2, .ref q3, .null, .null, .null, .null, .null])), (q0, .inl (K4.1, 48, .inl (fun _ => 0))), (q1, .inl (K4.2.1, 24, .inl (fun _ => 0))), (q2, .inl (K4.1, 24, .inl (fun _ => 0))), (q3, .inl (K4.2.1, 24, .inl (fun _ => 0)))])
  refine gb_aldn hC dX4_init_41 rfl ?_
  refine gb_bipush hC (v := 24) dX4_init_42 (by decide) ?_
  refine gb_newI (t0 := 0) (N := 24) hC rfl (by decide) (by decide) (by decide) dX4_init_44 (fun q4 => ?_)
  show gb_G X D 1 46 [some (.ref h0)] [.ref q4, .ref h0] 5 144 ([(h0, .inr (4, [.int 1, .ref q0, .ref q1, .int 0, .ref q2, .ref q3, .null, .null, .null, .null, .null])), (q0, .inl (K4.1, 48, .inl (fun _ => 0))), (q1, .inl (K4.2.1, 24, .inl (fun _ => 0))), (q2, .inl (K4.1, 24, .inl (fun _ => 0))), (q3, .inl (K4.2.1, 24, .inl (fun _ => 0))), (q4, .inl (K4.1, 24, .inl (fun _ => 0)))])
  refine gb_putF (ty := .array .int) hC hI 0 rfl (C := RX4) (T := TX4) (N := 11) rfl fW_M tyX4 tyX4_ok nmX4 6 (by decide) gw_322 rfl rfl (by decide +kernel) rfl rfl (Nat.le_of_ble_eq_true rfl) dX4_init_46 ?_
  show gb_G X D 1 49 [some (.ref h0)] [] 5 144 ([(h0, .inr (4, [.int 1, .ref q0, .ref q1, .int 0, .ref q2, .ref q3, .ref q4, .null, .null, .null, .null])), (q0, .inl (K4.1, 48, .inl (fun _ => 0))), (q1, .inl (K4.2.1, 24, .inl (fun _ => 0))), (q2, .inl (K4.1, 24, .inl (fun _ => 0))), (q3, .inl (K4.2.1, 24, .inl (fun _ => 0))), (q4, .inl (K4.1, 24, .inl (fun _ => 0)))])
  refine gb_aldn hC dX4_init_49 rfl ?_
  refine gb_bipush hC (v := 24) dX4_init_50 (by decide) ?_
  refine gb_newI (t0 := 0) (N := 24) hC rfl (by decide) (by decide) (by decide) dX4_init_52 (fun q5 => ?_)
  show gb_G X D 1 54 [some (.ref h0)] [.ref q5, .ref h0] 6 168 ([(h0, .inr (4, [.int 1, .ref q0, .ref q1, .int 0, .ref q2, .ref q3, .ref q4, .null, .null, .null, .null])), (q0, .inl (K4.1, 48, .inl (fun _ => 0))), (q1, .inl (K4.2.1, 24, .inl (fun _ => 0))), (q2, .inl (K4.1, 24, .inl (fun _ => 0))), (q3, .inl (K4.2.1, 24, .inl (fun _ => 0))), (q4, .inl (K4.1, 24, .inl (fun _ => 0))), (q5, .inl (K4.1, 24, .inl (fun _ => 0)))])
  refine gb_putF (ty := .array .int) hC hI 0 rfl (C := RX4) (T := TX4) (N := 11) rfl fW_M tyX4 tyX4_ok nmX4 7 (by decide) gw_323 rfl rfl (by decide +kernel) rfl rfl (Nat.le_of_ble_eq_true rfl) dX4_init_54 ?_
  show gb_G X D 1 57 [some (.ref h0)] [] 6 168 ([(h0, .inr (4, [.int 1, .ref q0, .ref q1, .int 0, .ref q2, .ref q3, .ref q4, .ref q5, .null, .null, .null])), (q0, .inl (K4.1, 48, .inl (fun _ => 0))), (q1, .inl (K4.2.1, 24, .inl (fun _ => 0))), (q2, .inl (K4.1, 24, .inl (fun _ => 0))), (q3, .inl (K4.2.1, 24, .inl (fun _ => 0))), (q4, .inl (K4.1, 24, .inl (fun _ => 0))), (q5, .inl (K4.1, 24, .inl (fun _ => 0)))])
  refine gb_aldn hC dX4_init_57 rfl ?_
  refine gb_bipush hC (v := 24) dX4_init_58 (by decide) ?_
  refine gb_newI (t0 := 0) (N := 24) hC rfl (by decide) (by decide) (by decide) dX4_init_60 (fun q6 => ?_)
  show gb_G X D 1 62 [some (.ref h0)] [.ref q6, .ref h0] 7 192 ([(h0, .inr (4, [.int 1, .ref q0, .ref q1, .int 0, .ref q2, .ref q3, .ref q4, .ref q5, .null, .null, .null])), (q0, .inl (K4.1, 48, .inl (fun _ => 0))), (q1, .inl (K4.2.1, 24, .inl (fun _ => 0))), (q2, .inl (K4.1, 24, .inl (fun _ => 0))), (q3, .inl (K4.2.1, 24, .inl (fun _ => 0))), (q4, .inl (K4.1, 24, .inl (fun _ => 0))), (q5, .inl (K4.1, 24, .inl (fun _ => 0))), (q6, .inl (K4.1, 24, .inl (fun _ => 0)))])
  refine gb_putF (ty := .array .int) hC hI 0 rfl (C := RX4) (T := TX4) (N := 11) rfl fW_M tyX4 tyX4_ok nmX4 8 (by decide) gw_324 rfl rfl (by decide +kernel) rfl rfl (Nat.le_of_ble_eq_true rfl) dX4_init_62 ?_
  show gb_G X D 1 65 [some (.ref h0)] [] 7 192 ([(h0, .inr (4, [.int 1, .ref q0, .ref q1, .int 0, .ref q2, .ref q3, .ref q4, .ref q5, .ref q6, .null, .null])), (q0, .inl (K4.1, 48, .inl (fun _ => 0))), (q1, .inl (K4.2.1, 24, .inl (fun _ => 0))), (q2, .inl (K4.1, 24, .inl (fun _ => 0))), (q3, .inl (K4.2.1, 24, .inl (fun _ => 0))), (q4, .inl (K4.1, 24, .inl (fun _ => 0))), (q5, .inl (K4.1, 24, .inl (fun _ => 0))), (q6, .inl (K4.1, 24, .inl (fun _ => 0)))])
  refine gb_aldn hC dX4_init_65 rfl ?_
  refine gb_bipush hC (v := 10) dX4_init_66 (by decide) ?_
  refine gb_newI (t0 := 0) (N := 10) hC rfl (by decide) (by decide) (by decide) dX4_init_68 (fun q7 => ?_)
  show gb_G X D 1 70 [some (.ref h0)] [.ref q7, .ref h0] 8 202 ([(h0, .inr (4, [.int 1, .ref q0, .ref q1, .int 0, .ref q2, .ref q3, .ref q4, .ref q5, .ref q6, .null, .null])), (q0, .inl (K4.1, 48, .inl (fun _ => 0))), (q1, .inl (K4.2.1, 24, .inl (fun _ => 0))), (q2, .inl (K4.1, 24, .inl (fun _ => 0))), (q3, .inl (K4.2.1, 24, .inl (fun _ => 0))), (q4, .inl (K4.1, 24, .inl (fun _ => 0))), (q5, .inl (K4.1, 24, .inl (fun _ => 0))), (q6, .inl (K4.1, 24, .inl (fun _ => 0))), (q7, .inl (K4.1, 10, .inl (fun _ => 0)))])
  refine gb_putF (ty := .array .int) hC hI 0 rfl (C := RX4) (T := TX4) (N := 11) rfl fW_M tyX4 tyX4_ok nmX4 9 (by decide) gw_325 rfl rfl (by decide +kernel) rfl rfl (Nat.le_of_ble_eq_true rfl) dX4_init_70 ?_
  show gb_G X D 1 73 [some (.ref h0)] [] 8 202 ([(h0, .inr (4, [.int 1, .ref q0, .ref q1, .int 0, .ref q2, .ref q3, .ref q4, .ref q5, .ref q6, .ref q7, .null])), (q0, .inl (K4.1, 48, .inl (fun _ => 0))), (q1, .inl (K4.2.1, 24, .inl (fun _ => 0))), (q2, .inl (K4.1, 24, .inl (fun _ => 0))), (q3, .inl (K4.2.1, 24, .inl (fun _ => 0))), (q4, .inl (K4.1, 24, .inl (fun _ => 0))), (q5, .inl (K4.1, 24, .inl (fun _ => 0))), (q6, .inl (K4.1, 24, .inl (fun _ => 0))), (q7, .inl (K4.1, 10, .inl (fun _ => 0)))])
  refine gb_aldn hC dX4_init_73 rfl ?_
  refine gb_bipush hC (v := 24) dX4_init_74 (by decide) ?_
  refine gb_newI (t0 := 0) (N := 24) hC rfl (by decide) (by decide) (by decide) dX4_init_76 (fun q8 => ?_)
  show gb_G X D 1 78 [some (.ref h0)] [.ref q8, .ref h0] 9 226 ([(h0, .inr (4, [.int 1, .ref q0, .ref q1, .int 0, .ref q2, .ref q3, .ref q4, .ref q5, .ref q6, .ref q7, .null])), (q0, .inl (K4.1, 48, .inl (fun _ => 0))), (q1, .inl (K4.2.1, 24, .inl (fun _ => 0))), (q2, .inl (K4.1, 24, .inl (fun _ => 0))), (q3, .inl (K4.2.1, 24, .inl (fun _ => 0))), (q4, .inl (K4.1, 24, .inl (fun _ => 0))), (q5, .inl (K4.1, 24, .inl (fun _ => 0))), (q6, .inl (K4.1, 24, .inl (fun _ => 0))), (q7, .inl (K4.1, 10, .inl (fun _ => 0))), (q8, .inl (K4.1, 24, .inl (fun _ => 0)))])
  refine gb_putF (ty := .array .int) hC hI 0 rfl (C := RX4) (T := TX4) (N := 11) rfl fW_M tyX4 tyX4_ok nmX4 10 (by decide) gw_326 rfl rfl (by decide +kernel) rfl rfl (Nat.le_of_ble_eq_true rfl) dX4_init_78 ?_
  show gb_G X D 1 81 [some (.ref h0)] [] 9 226 ([(h0, .inr (4, [.int 1, .ref q0, .ref q1, .int 0, .ref q2, .ref q3, .ref q4, .ref q5, .ref q6, .ref q7, .ref q8])), (q0, .inl (K4.1, 48, .inl (fun _ => 0))), (q1, .inl (K4.2.1, 24, .inl (fun _ => 0))), (q2, .inl (K4.1, 24, .inl (fun _ => 0))), (q3, .inl (K4.2.1, 24, .inl (fun _ => 0))), (q4, .inl (K4.1, 24, .inl (fun _ => 0))), (q5, .inl (K4.1, 24, .inl (fun _ => 0))), (q6, .inl (K4.1, 24, .inl (fun _ => 0))), (q7, .inl (K4.1, 10, .inl (fun _ => 0))), (q8, .inl (K4.1, 24, .inl (fun _ => 0)))])
  refine gb_aldn hC dX4_init_81 rfl ?_
  refine gb_const hC (v := 1) dX4_init_82 (by decide) ?_
  refine gb_put (ty := .int) hC 0 rfl (C := RX4) (T := TX4) (N := 11) rfl fW_M tyX4 tyX4_ok nmX4 0 (by decide) gw_316 rfl (by decide +kernel) (by decide +kernel) (by decide +kernel) (Nat.le_of_ble_eq_true rfl) dX4_init_83 ?_
  show gb_G X D 1 86 [some (.ref h0)] [] 9 226 ([(h0, .inr (4, [.int 1, .ref q0, .ref q1, .int 0, .ref q2, .ref q3, .ref q4, .ref q5, .ref q6, .ref q7, .ref q8])), (q0, .inl (K4.1, 48, .inl (fun _ => 0))), (q1, .inl (K4.2.1, 24, .inl (fun _ => 0))), (q2, .inl (K4.1, 24, .inl (fun _ => 0))), (q3, .inl (K4.2.1, 24, .inl (fun _ => 0))), (q4, .inl (K4.1, 24, .inl (fun _ => 0))), (q5, .inl (K4.1, 24, .inl (fun _ => 0))), (q6, .inl (K4.1, 24, .inl (fun _ => 0))), (q7, .inl (K4.1, 10, .inl (fun _ => 0))), (q8, .inl (K4.1, 24, .inl (fun _ => 0)))])
  exact hR (q0, q1, q2, q3, q4, q5, q6, q7, q8) _ _ dX4_init_86
