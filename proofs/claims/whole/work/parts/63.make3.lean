/-! CONSTRUCTORS: the packer, its packings one by one -/
def gb_PL (K4 : ClassId × ClassId × ClassId × ClassId) (h : Nat → Nat) (u : Nat → Nat → Nat) (j : Nat) : va_W := (List.range j).flatMap (fun k => gb_wP K4 (h k) k (u k))
def gb_fp (h : Nat → Nat) (j : Nat) : Nat → Option Nat := fun i => if i < j then some (h i) else none
abbrev gb_k5 (K4 : ClassId × ClassId × ClassId × ClassId) (h0 g a b pa : Nat) (f : Nat → Option Nat) : va_W := [(h0, .inr (3, [.ref g, .ref pa])), (g, .inr (0, [.ref a, .ref b, .int 0, .int 1])), (a, gb_r K4 24), (b, gb_r K4 24), (pa, .inl (K4.2.2.1, 7, .inr (.inr (.inr (.inr f)))))]
def gb_wK (K4 : ClassId × ClassId × ClassId × ClassId) (h0 g a b pa : Nat) (h : Nat → Nat) (u : Nat → Nat → Nat) : va_W := gb_k5 K4 h0 g a b pa (gb_fp h 7) ++ gb_PL K4 h u 7
theorem gb_PL_s {K4 : ClassId × ClassId × ClassId × ClassId} {h : Nat → Nat} {u : Nat → Nat → Nat} {j : Nat} : gb_PL K4 h u (j + 1) = gb_PL K4 h u j ++ gb_wP K4 (h j) j (u j) := by
  rw [gb_PL, List.range_succ, List.flatMap_append]
  simp [gb_PL]
theorem gb_PL_c {K4 : ClassId × ClassId × ClassId × ClassId} {h g : Nat → Nat} {u v : Nat → Nat → Nat} : ∀ {j : Nat}, (∀ r, r < j → h r = g r ∧ u r = v r) → gb_PL K4 h u j = gb_PL K4 g v j
  | 0, _ => rfl
  | j + 1, hh => by
    rw [gb_PL_s, gb_PL_s, gb_PL_c (j := j) (fun r h1 => hh r (by omega)), (hh j (by omega)).1, (hh j (by omega)).2]
theorem gb_fp_c {h g : Nat → Nat} {j : Nat} (hh : ∀ i, i < j → h i = g i) : gb_fp h j = gb_fp g j := by
  funext i
  unfold gb_fp
  by_cases c : i < j
  · rw [if_pos c, if_pos c, hh i c]
  · rw [if_neg c, if_neg c]
theorem gb_fp_s {h : Nat → Nat} {j : Nat} : va_up (gb_fp h j) j (some (h j)) = gb_fp h (j + 1) := by
  funext i
  by_cases c : i = j
  · subst c; rw [va_up_self, gb_fp, if_pos (by omega)]
  · rw [va_up_ne _ _ c, gb_fp, gb_fp]
    by_cases c2 : i < j
    · rw [if_pos c2, if_pos (by omega)]
    · rw [if_neg c2, if_neg (by omega)]
set_option maxHeartbeats 4000000 in
set_option maxRecDepth 100000 in
theorem c_X3_init (l : Launch) (D : va_G) (K4 : ClassId × ClassId × ClassId × ClassId) (h0 : Nat) : gb_M l D (gb_t K4) yX3_init (.code yX3_init cX3_init 2 none :: gw_T) { frames := 3, cells := 221, slots := 2243, locals := 62 } h0 [] (.inr (3, [.null, .null])) ((Nat × Nat × Nat × Nat) × (Nat → Nat) × (Nat → Nat → Nat)) (fun u => gb_wK K4 h0 u.1.1 u.1.2.1 u.1.2.2.1 u.1.2.2.2 u.2.1 u.2.2) := by
  refine gb_enter RX3 (by decide +kernel) rfl rfl rfl (Nat.le_of_ble_eq_true rfl) (gm_c1_ok rfl) ?_
  intro X hC hI hR
  show gb_G X D 2 0 [some (.ref h0), none] [] 0 0 ([(h0, .inr (3, [.null, .null]))])
  have L : ∀ (n j : Nat) (h : Nat → Nat) (u : Nat → Nat → Nat) (g a b pa : Nat), j + n = 7 → gb_G X D 2 26 [some (.ref h0), some (.int (nI j))] [] (4 + 31 * j) (59 + 312 * j) (gb_k5 K4 h0 g a b pa (gb_fp h j) ++ gb_PL K4 h u j) := by
    intro n
    induction n with
    | zero =>
      intro j h u g a b pa hj
      have hj : j = 7 := by omega
      subst hj
      refine gb_ildn hC dX3_init_26 rfl ?_
      refine gb_bipush hC (v := 6) dX3_init_27 (by decide) ?_
      refine gb_icmp_gt hC 52 dX3_init_29 (by decide) (fun h1 => ?_) (fun h1 => ?_)
      · exact hR ((g, a, b, pa), h, u) 52 _ dX3_init_52
      · exact absurd (by decide) h1
    | succ n ih =>
      intro j h u g a b pa hj
      refine gb_ildn hC dX3_init_26 rfl ?_
      refine gb_bipush hC (v := 6) dX3_init_27 (by decide) ?_
      refine gb_icmp_gt hC 52 dX3_init_29 (by decide) (fun h1 => ?_) (fun h1 => ?_)
      · exact absurd h1 (nI_nlt (a := 6) (b := j) (by omega) (by omega))
      ·
        refine gb_aldn hC dX3_init_32 rfl ?_
        refine gb_get hC 0 rfl (C := RX3) (T := TX3) (N := 2) rfl fW_K 1 (by decide) gw_130 rfl dX3_init_33 ?_
        refine gb_ildn hC dX3_init_36 rfl ?_
        refine gb_new (ci := 1) (fs := [.null, .int 0, .int 0, .null, .int 0, .int 0, .int 0, .null, .int 0, .null, .int 0, .int 0]) hC (C := RX1) (T := TX1) (N := 12) rfl fW_P tyX1 tyX1_ok gw_65 gw_67 gw_25 (by decide +kernel) (by show _ ≤ 221; omega) (by show _ ≤ 2243; omega) dX3_init_37 (fun q => ?_)
        refine gb_dup hC dX3_init_40 rfl ?_
        refine gb_ildn hC dX3_init_41 rfl ?_
        refine gb_callI (n := 1) (As := [.int (nI j)]) hC (fun l => c_X1_init l D K4 q (k := j) (by omega)) gw_68 gw_69 gw_25 gw_70 rfl rfl (by decide +kernel) ⟨by decide, by decide⟩ (Nat.le_of_ble_eq_true rfl) ⟨by show _ + 30 ≤ 221; omega, by show _ + 300 ≤ 2243; omega⟩ dX3_init_42 (fun v => ?_)
        refine gb_astq (v := q) (ci := 1) (r := (RX1, TX1, 12)) (vs := [.ref (v 1), .int 0, .int 0, .ref (v 4), .int 0, .int 0, .int 0, .ref (v 2), .int 0, .ref (v 3), .int (-1), .int (-1)]) hC 4 2 (5 + (gb_PL K4 h u j).length) rfl rfl ?_ rfl (by omega) (by omega) dX3_init_45 ?_
        · exact gb_atl (by simp; omega)
        refine gb_iinc_1 hC dX3_init_46 (nI_1 j) (by decide) ?_
        refine gb_goto hC 26 dX3_init_49 (by decide) ?_
        have hb : ∀ r, r < j → va_up h j q r = h r ∧ va_up u j v r = u r := fun r hr => ⟨va_up_ne _ _ (by omega), va_up_ne _ _ (by omega)⟩
        have e0 : va_up h j q j = q := va_up_self _ _ _
        have e1 : va_up u j v j = v := va_up_self _ _ _
        have hx := ih (j + 1) (va_up h j q) (va_up u j v) g a b pa (by omega)
        generalize va_up h j q = h2 at hb e0 hx
        generalize va_up u j v = u2 at hb e1 hx
        rw [gb_PL_s, e0, e1, ← gb_fp_s, e0, gb_PL_c (g := h) (v := u) hb, gb_fp_c (g := h) (fun i hi => (hb i hi).1)] at hx
        rw [show 4 + 31 * (j + 1) = 4 + 31 * j + 1 + 30 by omega, show 59 + 312 * (j + 1) = 59 + 312 * j + 12 + 300 by omega] at hx
        exact hx
  refine gb_aldn hC dX3_init_0 rfl ?_
  refine gb_objInit hC gw_36 (by decide) (Nat.le_of_ble_eq_true rfl) dX3_init_1 ?_
  refine gb_aldn hC dX3_init_4 rfl ?_
  refine gb_new (ci := 0) (fs := [.null, .null, .int 0, .int 0]) hC (C := RX0) (T := TX0) (N := 4) rfl fW_G tyX0 tyX0_ok gw_39 gw_40 gw_24 (by decide +kernel) (by decide) (by decide) dX3_init_5 (fun g => ?_)
  refine gb_dup hC dX3_init_8 rfl ?_
  refine gb_callN (n := 0) (As := []) hC (fun l => c_X0_init l D K4 g) (fun U h => h.1) gw_42 gw_24 gw_43 rfl rfl (by decide +kernel) ⟨by decide, by decide⟩ (Nat.le_of_ble_eq_true rfl) ⟨by decide, by decide⟩ dX3_init_9 (fun v => ?_)
  show gb_G X D 2 12 [some (.ref h0), none] [.ref g, .ref h0] 3 52 [(h0, .inr (3, [.null, .null])), (g, .inr (0, [.ref v.1, .ref v.2, .int 0, .int 1])), (v.1, gb_r K4 24), (v.2, gb_r K4 24)]
  refine gb_putF (ty := .object "ForestPacker$Graph") hC hI 0 rfl (C := RX3) (T := TX3) (N := 2) rfl fW_K tyX3 tyX3_ok nmX3 0 (by decide) gw_129 rfl rfl (by decide +kernel) rfl rfl (Nat.le_of_ble_eq_true rfl) dX3_init_12 ?_
  show gb_G X D 2 15 [some (.ref h0), none] [] 3 52 [(h0, .inr (3, [.ref g, .null])), (g, .inr (0, [.ref v.1, .ref v.2, .int 0, .int 1])), (v.1, gb_r K4 24), (v.2, gb_r K4 24)]
  refine gb_aldn hC dX3_init_15 rfl ?_
  refine gb_bipush hC (v := nI 7) dX3_init_16 (by decide) ?_
  refine gb_newq (t0 := 2) (N := 7) hC rfl gw_65 (fun U h => h.2.2.1) (by decide) (by decide) (by decide) dX3_init_18 (fun pa => ?_)
  show gb_G X D 2 21 [some (.ref h0), none] [.ref pa, .ref h0] 4 59 [(h0, .inr (3, [.ref g, .null])), (g, .inr (0, [.ref v.1, .ref v.2, .int 0, .int 1])), (v.1, gb_r K4 24), (v.2, gb_r K4 24), (pa, .inl (K4.2.2.1, 7, .inr (.inr (.inr (.inr (fun _ => none))))))]
  refine gb_putF (ty := .array (.object "ForestPacker$Packing")) hC hI 0 rfl (C := RX3) (T := TX3) (N := 2) rfl fW_K tyX3 tyX3_ok nmX3 1 (by decide) gw_130 rfl rfl (by decide +kernel) rfl rfl (Nat.le_of_ble_eq_true rfl) dX3_init_21 ?_
  refine gb_const hC (v := 0) dX3_init_24 (by decide) ?_
  refine gb_istn_1 hC dX3_init_25 (by decide) ?_
  have hx := L 7 0 (fun _ => 0) (fun _ _ => 0) g v.1 v.2 pa (by omega)
  have e0 : gb_fp (fun _ => 0) 0 = (fun _ => none) := by funext i; rw [gb_fp, if_neg (Nat.not_lt_zero i)]
  rw [e0] at hx
  exact hx
