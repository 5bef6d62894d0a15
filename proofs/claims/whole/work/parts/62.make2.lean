/-! CONSTRUCTORS: a packing, its forests one by one -/
def gb_pl (K4 : ClassId × ClassId × ClassId × ClassId) (u : Nat → Nat) (j : Nat) : va_W := (List.range j).flatMap (fun i => [(u (5 + 3 * i), .inr (2, [.ref (u (5 + 3 * i + 1)), .ref (u (5 + 3 * i + 2))])), (u (5 + 3 * i + 1), gb_r K4 10), (u (5 + 3 * i + 2), gb_r K4 10)])
def gb_ff (u : Nat → Nat) (j : Nat) : Nat → Option Nat := fun i => if i < j then some (u (5 + 3 * i)) else none
abbrev gb_p5 (K4 : ClassId × ClassId × ClassId × ClassId) (h0 k a1 a2 a3 a4 : Nat) (f : Nat → Option Nat) : va_W := [(h0, .inr (1, [.ref a1, .int 0, .int 0, .ref a4, .int 0, .int 0, .int 0, .ref a2, .int 0, .ref a3, .int (-1), .int (-1)])), (a1, gb_r K4 24), (a2, gb_r K4 24), (a3, gb_r K4 24), (a4, .inl (K4.2.2.2, k, .inr (.inr (.inr (.inr f)))))]
def gb_wP (K4 : ClassId × ClassId × ClassId × ClassId) (h0 k : Nat) (u : Nat → Nat) : va_W := gb_p5 K4 h0 k (u 1) (u 2) (u 3) (u 4) (gb_ff u k) ++ gb_pl K4 u k
theorem gb_pl_s {K4 : ClassId × ClassId × ClassId × ClassId} {u : Nat → Nat} {j : Nat} : gb_pl K4 u (j + 1) = gb_pl K4 u j ++ [(u (5 + 3 * j), .inr (2, [.ref (u (5 + 3 * j + 1)), .ref (u (5 + 3 * j + 2))])), (u (5 + 3 * j + 1), gb_r K4 10), (u (5 + 3 * j + 2), gb_r K4 10)] := by
  rw [gb_pl, List.range_succ, List.flatMap_append]
  simp [gb_pl]
theorem gb_pl_c {K4 : ClassId × ClassId × ClassId × ClassId} {u v : Nat → Nat} : ∀ {j : Nat}, (∀ r, 5 ≤ r → r < 5 + 3 * j → u r = v r) → gb_pl K4 u j = gb_pl K4 v j
  | 0, _ => rfl
  | j + 1, h => by
    rw [gb_pl_s, gb_pl_s, gb_pl_c (j := j) (fun r h1 h2 => h r h1 (by omega)), h _ (by omega) (by omega), h _ (by omega) (by omega), h _ (by omega) (by omega)]
theorem gb_ff_c {u v : Nat → Nat} {j : Nat} (h : ∀ i, i < j → u (5 + 3 * i) = v (5 + 3 * i)) : gb_ff u j = gb_ff v j := by
  funext i
  unfold gb_ff
  by_cases c : i < j
  · rw [if_pos c, if_pos c, h i c]
  · rw [if_neg c, if_neg c]
theorem gb_ff_s {u : Nat → Nat} {j : Nat} : va_up (gb_ff u j) j (some (u (5 + 3 * j))) = gb_ff u (j + 1) := by
  funext i
  by_cases c : i = j
  · subst c; rw [va_up_self, gb_ff, if_pos (by omega)]
  · rw [va_up_ne _ _ c, gb_ff, gb_ff]
    by_cases c2 : i < j
    · rw [if_pos c2, if_pos (by omega)]
    · rw [if_neg c2, if_neg (by omega)]
theorem gb_atl {ws t : va_W} {x : Nat × va_E} {n : Nat} (h : n = ws.length) : (ws ++ x :: t)[n]? = some x := by subst h; simp
theorem gb_mx {k : Nat} (hk : k < 7) : (if (0 : Int32) < nI k then nI k else 0) = nI k := by
  have : ∀ k, k < 7 → (if (0 : Int32) < nI k then nI k else 0) = nI k := by decide +kernel
  exact this k hk
set_option maxHeartbeats 4000000 in
set_option maxRecDepth 100000 in
theorem c_X1_init (l : Launch) (D : va_G) (K4 : ClassId × ClassId × ClassId × ClassId) (h0 : Nat) {k : Nat} (hk : k < 7) : gb_M l D (gb_t K4) yX1_init (.code yX1_init cX1_init 3 none :: gw_T) { frames := 2, cells := 30, slots := 300, locals := 40 } h0 [.int (nI k)] (.inr (1, [.null, .int 0, .int 0, .null, .int 0, .int 0, .int 0, .null, .int 0, .null, .int 0, .int 0])) (Nat → Nat) (fun u => gb_wP K4 h0 k u) := by
  refine gb_enter RX1 (by decide +kernel) rfl rfl rfl (Nat.le_of_ble_eq_true rfl) (gm_c1_ok rfl) ?_
  intro X hC hI hR
  show gb_G X D 3 0 [some (.ref h0), some (.int (nI k)), none] [] 0 0 ([(h0, .inr (1, [.null, .int 0, .int 0, .null, .int 0, .int 0, .int 0, .null, .int 0, .null, .int 0, .int 0]))])
  have L : ∀ (n j : Nat) (b : Nat → Nat) (a1 a2 a3 a4 : Nat), j + n = k → gb_G X D 3 82 [some (.ref h0), some (.int (nI k)), some (.int (nI j))] [] (4 + 3 * j) (72 + k + 22 * j) (gb_p5 K4 h0 k a1 a2 a3 a4 (gb_ff b j) ++ gb_pl K4 b j) := by
    intro n
    induction n with
    | zero =>
      intro j b a1 a2 a3 a4 hj
      have hj : j = k := by omega
      subst hj
      refine gb_ildn hC dX1_init_82 rfl ?_
      refine gb_aldn hC dX1_init_83 rfl ?_
      refine gb_get hC 0 rfl (C := RX1) (T := TX1) (N := 12) rfl fW_P 3 (by decide) gw_95 rfl dX1_init_84 ?_
      refine gb_alen hC 4 3 rfl rfl dX1_init_87 ?_
      refine gb_icmp_ge hC 110 dX1_init_88 (by decide) (fun h1 => ?_) (fun h1 => ?_)
      · refine gb_widen (k := 30) (n := 300) (by omega) (by omega) ?_
        have hx := hR (fun r => if r = 1 then a1 else if r = 2 then a2 else if r = 3 then a3 else if r = 4 then a4 else b r) 110 [some (.ref h0), some (.int (nI j)), some (.int (nI j))] dX1_init_110
        have e1 : gb_wP K4 h0 j (fun r => if r = 1 then a1 else if r = 2 then a2 else if r = 3 then a3 else if r = 4 then a4 else b r) = gb_p5 K4 h0 j a1 a2 a3 a4 (gb_ff b j) ++ gb_pl K4 b j := by
          have hb : ∀ r, 5 ≤ r → (fun r => if r = 1 then a1 else if r = 2 then a2 else if r = 3 then a3 else if r = 4 then a4 else b r) r = b r := fun r hr => by
            show (if r = 1 then a1 else if r = 2 then a2 else if r = 3 then a3 else if r = 4 then a4 else b r) = b r
            rw [if_neg (by omega), if_neg (by omega), if_neg (by omega), if_neg (by omega)]
          rw [gb_wP, gb_pl_c (v := b) (fun r h1 _ => hb r h1), gb_ff_c (v := b) (fun i _ => hb _ (by omega))]
          rfl
        rw [e1] at hx
        exact hx
      · exact absurd (Int32.le_refl _) h1
    | succ n ih =>
      intro j b a1 a2 a3 a4 hj
      refine gb_ildn hC dX1_init_82 rfl ?_
      refine gb_aldn hC dX1_init_83 rfl ?_
      refine gb_get hC 0 rfl (C := RX1) (T := TX1) (N := 12) rfl fW_P 3 (by decide) gw_95 rfl dX1_init_84 ?_
      refine gb_alen hC 4 3 rfl rfl dX1_init_87 ?_
      refine gb_icmp_ge hC 110 dX1_init_88 (by decide) (fun h1 => ?_) (fun h1 => ?_)
      · exact absurd h1 (nI_ge (a := j) (b := k) (by omega) (by omega))
      ·
        refine gb_aldn hC dX1_init_91 rfl ?_
        refine gb_get hC 0 rfl (C := RX1) (T := TX1) (N := 12) rfl fW_P 3 (by decide) gw_95 rfl dX1_init_92 ?_
        refine gb_ildn hC dX1_init_95 rfl ?_
        refine gb_new (ci := 2) (fs := [.null, .null]) hC (C := RX2) (T := TX2) (N := 2) rfl fW_F tyX2 tyX2_ok gw_75 gw_77 gw_27 (fun j hj => by rcases (show j = 0 ∨ j = 1 by omega) with rfl | rfl <;> rfl) (by show _ ≤ 30; omega) (by show _ ≤ 300; omega) dX1_init_96 (fun q => ?_)
        refine gb_dup hC dX1_init_99 rfl ?_
        refine gb_callN (n := 0) (As := []) hC (fun l => c_X2_init l D K4 q) (fun U h => h.2.1) gw_79 gw_27 gw_80 rfl rfl (by decide +kernel) ⟨by decide, by decide⟩ (Nat.le_of_ble_eq_true rfl) ⟨by show _ + 2 ≤ 30; omega, by show _ + 20 ≤ 300; omega⟩ dX1_init_100 (fun u => ?_)
        refine gb_astq (v := q) (ci := 2) (r := (RX2, TX2, 2)) (vs := [.ref u.1, .ref u.2]) hC 4 3 (5 + (gb_pl K4 b j).length) rfl rfl ?_ rfl (by omega) (by omega) dX1_init_103 ?_
        · exact gb_atl (by simp; omega)
        refine gb_iinc_2 hC dX1_init_104 (nI_1 j) (by decide) ?_
        refine gb_goto hC 82 dX1_init_107 (by decide) ?_
        have hb : ∀ r, r < 5 + 3 * j → va_up (va_up (va_up b (5 + 3 * j) q) (5 + 3 * j + 1) u.1) (5 + 3 * j + 2) u.2 r = b r := fun r hr => by
          rw [va_up_ne _ _ (by omega), va_up_ne _ _ (by omega), va_up_ne _ _ (by omega)]
        have e0 : va_up (va_up (va_up b (5 + 3 * j) q) (5 + 3 * j + 1) u.1) (5 + 3 * j + 2) u.2 (5 + 3 * j) = q := by
          rw [va_up_ne _ _ (by omega), va_up_ne _ _ (by omega), va_up_self]
        have e1 : va_up (va_up (va_up b (5 + 3 * j) q) (5 + 3 * j + 1) u.1) (5 + 3 * j + 2) u.2 (5 + 3 * j + 1) = u.1 := by
          rw [va_up_ne _ _ (by omega), va_up_self]
        have e2 : va_up (va_up (va_up b (5 + 3 * j) q) (5 + 3 * j + 1) u.1) (5 + 3 * j + 2) u.2 (5 + 3 * j + 2) = u.2 := va_up_self _ _ _
        have hx := ih (j + 1) (va_up (va_up (va_up b (5 + 3 * j) q) (5 + 3 * j + 1) u.1) (5 + 3 * j + 2) u.2) a1 a2 a3 a4 (by omega)
        generalize va_up (va_up (va_up b (5 + 3 * j) q) (5 + 3 * j + 1) u.1) (5 + 3 * j + 2) u.2 = b2 at hb e0 e1 e2 hx
        rw [gb_pl_s, e0, e1, e2, ← gb_ff_s, e0, gb_pl_c (v := b) (fun r _ hr => hb r hr), gb_ff_c (v := b) (fun i hi => hb _ (by omega))] at hx
        rw [show 4 + 3 * (j + 1) = 4 + 3 * j + 1 + 2 by omega, show 72 + k + 22 * (j + 1) = 72 + k + 22 * j + 2 + 20 by omega] at hx
        exact hx
  have hkn : k ≤ 48 := by omega
  refine gb_aldn hC dX1_init_0 rfl ?_
  refine gb_objInit hC gw_71 (by decide) (Nat.le_of_ble_eq_true rfl) dX1_init_1 ?_
  refine gb_aldn hC dX1_init_4 rfl ?_
  refine gb_bipush hC (v := 24) dX1_init_5 (by decide) ?_
  refine gb_newI (t0 := 0) (N := 24) hC rfl (by decide) (by decide) (by decide) dX1_init_7 (fun q0 => ?_)
  show gb_G X D 3 9 [some (.ref h0), some (.int (nI k)), none] [.ref q0, .ref h0] 1 24 ([(h0, .inr (1, [.null, .int 0, .int 0, .null, .int 0, .int 0, .int 0, .null, .int 0, .null, .int 0, .int 0])), (q0, .inl (K4.1, 24, .inl (fun _ => 0)))])
  refine gb_putF (ty := .array .int) hC hI 0 rfl (C := RX1) (T := TX1) (N := 12) rfl fW_P tyX1 tyX1_ok nmX1 0 (by decide) gw_89 rfl rfl (by decide +kernel) rfl rfl (Nat.le_of_ble_eq_true rfl) dX1_init_9 ?_
  show gb_G X D 3 12 [some (.ref h0), some (.int (nI k)), none] [] 1 24 ([(h0, .inr (1, [.ref q0, .int 0, .int 0, .null, .int 0, .int 0, .int 0, .null, .int 0, .null, .int 0, .int 0])), (q0, .inl (K4.1, 24, .inl (fun _ => 0)))])
  refine gb_aldn hC dX1_init_12 rfl ?_
  refine gb_const hC (v := 0) dX1_init_13 (by decide) ?_
  refine gb_put (ty := .int) hC 0 rfl (C := RX1) (T := TX1) (N := 12) rfl fW_P tyX1 tyX1_ok nmX1 1 (by decide) gw_91 rfl (by decide +kernel) (by decide +kernel) (by decide +kernel) (Nat.le_of_ble_eq_true rfl) dX1_init_14 ?_
  show gb_G X D 3 17 [some (.ref h0), some (.int (nI k)), none] [] 1 24 ([(h0, .inr (1, [.ref q0, .int 0, .int 0, .null, .int 0, .int 0, .int 0, .null, .int 0, .null, .int 0, .int 0])), (q0, .inl (K4.1, 24, .inl (fun _ => 0)))])
  refine gb_aldn hC dX1_init_17 rfl ?_
  refine gb_const hC (v := 0) dX1_init_18 (by decide) ?_
  refine gb_put (ty := .boolean) hC 0 rfl (C := RX1) (T := TX1) (N := 12) rfl fW_P tyX1 tyX1_ok nmX1 2 (by decide) gw_93 rfl (by decide +kernel) (by decide +kernel) (by decide +kernel) (Nat.le_of_ble_eq_true rfl) dX1_init_19 ?_
  show gb_G X D 3 22 [some (.ref h0), some (.int (nI k)), none] [] 1 24 ([(h0, .inr (1, [.ref q0, .int 0, .int 0, .null, .int 0, .int 0, .int 0, .null, .int 0, .null, .int 0, .int 0])), (q0, .inl (K4.1, 24, .inl (fun _ => 0)))])
  refine gb_aldn hC dX1_init_22 rfl ?_
  refine gb_const hC (v := 0) dX1_init_23 (by decide) ?_
  refine gb_put (ty := .boolean) hC 0 rfl (C := RX1) (T := TX1) (N := 12) rfl fW_P tyX1 tyX1_ok nmX1 4 (by decide) gw_96 rfl (by decide +kernel) (by decide +kernel) (by decide +kernel) (Nat.le_of_ble_eq_true rfl) dX1_init_24 ?_
  show gb_G X D 3 27 [some (.ref h0), some (.int (nI k)), none] [] 1 24 ([(h0, .inr (1, [.ref q0, .int 0, .int 0, .null, .int 0, .int 0, .int 0, .null, .int 0, .null, .int 0, .int 0])), (q0, .inl (K4.1, 24, .inl (fun _ => 0)))])
  refine gb_aldn hC dX1_init_27 rfl ?_
  refine gb_const hC (v := 0) dX1_init_28 (by decide) ?_
  refine gb_put (ty := .int) hC 0 rfl (C := RX1) (T := TX1) (N := 12) rfl fW_P tyX1 tyX1_ok nmX1 5 (by decide) gw_97 rfl (by decide +kernel) (by decide +kernel) (by decide +kernel) (Nat.le_of_ble_eq_true rfl) dX1_init_29 ?_
  show gb_G X D 3 32 [some (.ref h0), some (.int (nI k)), none] [] 1 24 ([(h0, .inr (1, [.ref q0, .int 0, .int 0, .null, .int 0, .int 0, .int 0, .null, .int 0, .null, .int 0, .int 0])), (q0, .inl (K4.1, 24, .inl (fun _ => 0)))])
  refine gb_aldn hC dX1_init_32 rfl ?_
  refine gb_const hC (v := 0) dX1_init_33 (by decide) ?_
  refine gb_put (ty := .int) hC 0 rfl (C := RX1) (T := TX1) (N := 12) rfl fW_P tyX1 tyX1_ok nmX1 6 (by decide) gw_98 rfl (by decide +kernel) (by decide +kernel) (by decide +kernel) (Nat.le_of_ble_eq_true rfl) dX1_init_34 ?_
  show gb_G X D 3 37 [some (.ref h0), some (.int (nI k)), none] [] 1 24 ([(h0, .inr (1, [.ref q0, .int 0, .int 0, .null, .int 0, .int 0, .int 0, .null, .int 0, .null, .int 0, .int 0])), (q0, .inl (K4.1, 24, .inl (fun _ => 0)))])
  refine gb_aldn hC dX1_init_37 rfl ?_
  refine gb_bipush hC (v := 24) dX1_init_38 (by decide) ?_
  refine gb_newI (t0 := 0) (N := 24) hC rfl (by decide) (by decide) (by decide) dX1_init_40 (fun q1 => ?_)
  show gb_G X D 3 42 [some (.ref h0), some (.int (nI k)), none] [.ref q1, .ref h0] 2 48 ([(h0, .inr (1, [.ref q0, .int 0, .int 0, .null, .int 0, .int 0, .int 0, .null, .int 0, .null, .int 0, .int 0])), (q0, .inl (K4.1, 24, .inl (fun _ => 0))), (q1, .inl (K4.1, 24, .inl (fun _ => 0)))])
  refine gb_putF (ty := .array .int) hC hI 0 rfl (C := RX1) (T := TX1) (N := 12) rfl fW_P tyX1 tyX1_ok nmX1 7 (by decide) gw_99 rfl rfl (by decide +kernel) rfl rfl (Nat.le_of_ble_eq_true rfl) dX1_init_42 ?_
  show gb_G X D 3 45 [some (.ref h0), some (.int (nI k)), none] [] 2 48 ([(h0, .inr (1, [.ref q0, .int 0, .int 0, .null, .int 0, .int 0, .int 0, .ref q1, .int 0, .null, .int 0, .int 0])), (q0, .inl (K4.1, 24, .inl (fun _ => 0))), (q1, .inl (K4.1, 24, .inl (fun _ => 0)))])
  refine gb_aldn hC dX1_init_45 rfl ?_
  refine gb_const hC (v := 0) dX1_init_46 (by decide) ?_
  refine gb_put (ty := .int) hC 0 rfl (C := RX1) (T := TX1) (N := 12) rfl fW_P tyX1 tyX1_ok nmX1 8 (by decide) gw_100 rfl (by decide +kernel) (by decide +kernel) (by decide +kernel) (Nat.le_of_ble_eq_true rfl) dX1_init_47 ?_
  show gb_G X D 3 50 [some (.ref h0), some (.int (nI k)), none] [] 2 48 ([(h0, .inr (1, [.ref q0, .int 0, .int 0, .null, .int 0, .int 0, .int 0, .ref q1, .int 0, .null, .int 0, .int 0])), (q0, .inl (K4.1, 24, .inl (fun _ => 0))), (q1, .inl (K4.1, 24, .inl (fun _ => 0)))])
  refine gb_aldn hC dX1_init_50 rfl ?_
  refine gb_bipush hC (v := 24) dX1_init_51 (by decide) ?_
  refine gb_newI (t0 := 0) (N := 24) hC rfl (by decide) (by decide) (by decide) dX1_init_53 (fun q2 => ?_)
  show gb_G X D 3 55 [some (.ref h0), some (.int (nI k)), none] [.ref q2, .ref h0] 3 72 ([(h0, .inr (1, [.ref q0, .int 0, .int 0, .null, .int 0, .int 0, .int 0, .ref q1, .int 0, .null, .int 0, .int 0])), (q0, .inl (K4.1, 24, .inl (fun _ => 0))), (q1, .inl (K4.1, 24, .inl (fun _ => 0))), (q2, .inl (K4.1, 24, .inl (fun _ => 0)))])
  refine gb_putF (ty := .array .int) hC hI 0 rfl (C := RX1) (T := TX1) (N := 12) rfl fW_P tyX1 tyX1_ok nmX1 9 (by decide) gw_101 rfl rfl (by decide +kernel) rfl rfl (Nat.le_of_ble_eq_true rfl) dX1_init_55 ?_
  show gb_G X D 3 58 [some (.ref h0), some (.int (nI k)), none] [] 3 72 ([(h0, .inr (1, [.ref q0, .int 0, .int 0, .null, .int 0, .int 0, .int 0, .ref q1, .int 0, .ref q2, .int 0, .int 0])), (q0, .inl (K4.1, 24, .inl (fun _ => 0))), (q1, .inl (K4.1, 24, .inl (fun _ => 0))), (q2, .inl (K4.1, 24, .inl (fun _ => 0)))])
  refine gb_aldn hC dX1_init_58 rfl ?_
  refine gb_const hC (v := -1) dX1_init_59 (by decide) ?_
  refine gb_put (ty := .int) hC 0 rfl (C := RX1) (T := TX1) (N := 12) rfl fW_P tyX1 tyX1_ok nmX1 10 (by decide) gw_102 rfl (by decide +kernel) (by decide +kernel) (by decide +kernel) (Nat.le_of_ble_eq_true rfl) dX1_init_60 ?_
  show gb_G X D 3 63 [some (.ref h0), some (.int (nI k)), none] [] 3 72 ([(h0, .inr (1, [.ref q0, .int 0, .int 0, .null, .int 0, .int 0, .int 0, .ref q1, .int 0, .ref q2, .int (-1), .int 0])), (q0, .inl (K4.1, 24, .inl (fun _ => 0))), (q1, .inl (K4.1, 24, .inl (fun _ => 0))), (q2, .inl (K4.1, 24, .inl (fun _ => 0)))])
  refine gb_aldn hC dX1_init_63 rfl ?_
  refine gb_const hC (v := -1) dX1_init_64 (by decide) ?_
  refine gb_put (ty := .int) hC 0 rfl (C := RX1) (T := TX1) (N := 12) rfl fW_P tyX1 tyX1_ok nmX1 11 (by decide) gw_103 rfl (by decide +kernel) (by decide +kernel) (by decide +kernel) (Nat.le_of_ble_eq_true rfl) dX1_init_65 ?_
  show gb_G X D 3 68 [some (.ref h0), some (.int (nI k)), none] [] 3 72 ([(h0, .inr (1, [.ref q0, .int 0, .int 0, .null, .int 0, .int 0, .int 0, .ref q1, .int 0, .ref q2, .int (-1), .int (-1)])), (q0, .inl (K4.1, 24, .inl (fun _ => 0))), (q1, .inl (K4.1, 24, .inl (fun _ => 0))), (q2, .inl (K4.1, 24, .inl (fun _ => 0)))])
  refine gb_aldn hC dX1_init_68 rfl ?_
  refine gb_const hC (v := 0) dX1_init_69 (by decide) ?_
  refine gb_ildn hC dX1_init_70 rfl ?_
  refine gb_max hC gwl_max_X1 (by decide) (Nat.le_of_ble_eq_true rfl) (by decide) (by decide) dX1_init_71 ?_
  rw [gb_mx hk]
  refine gb_newq (t0 := 3) (N := k) hC rfl gw_75 (fun U h => h.2.2.2) hkn (by decide) (by show _ ≤ 300; omega) dX1_init_74 (fun q3 => ?_)
  show gb_G X D 3 77 [some (.ref h0), some (.int (nI k)), none] [.ref q3, .ref h0] 4 (72 + k) ([(h0, .inr (1, [.ref q0, .int 0, .int 0, .null, .int 0, .int 0, .int 0, .ref q1, .int 0, .ref q2, .int (-1), .int (-1)])), (q0, .inl (K4.1, 24, .inl (fun _ => 0))), (q1, .inl (K4.1, 24, .inl (fun _ => 0))), (q2, .inl (K4.1, 24, .inl (fun _ => 0))), (q3, .inl (K4.2.2.2, k, .inr (.inr (.inr (.inr (fun _ => none))))))])
  refine gb_putF (ty := .array (.object "ForestPacker$RootedForest")) hC hI 0 rfl (C := RX1) (T := TX1) (N := 12) rfl fW_P tyX1 tyX1_ok nmX1 3 (by decide) gw_95 rfl rfl (by decide +kernel) rfl rfl (Nat.le_of_ble_eq_true rfl) dX1_init_77 ?_
  show gb_G X D 3 80 [some (.ref h0), some (.int (nI k)), none] [] 4 (72 + k) ([(h0, .inr (1, [.ref q0, .int 0, .int 0, .ref q3, .int 0, .int 0, .int 0, .ref q1, .int 0, .ref q2, .int (-1), .int (-1)])), (q0, .inl (K4.1, 24, .inl (fun _ => 0))), (q1, .inl (K4.1, 24, .inl (fun _ => 0))), (q2, .inl (K4.1, 24, .inl (fun _ => 0))), (q3, .inl (K4.2.2.2, k, .inr (.inr (.inr (.inr (fun _ => none))))))])
  refine gb_const hC (v := 0) dX1_init_80 (by decide) ?_
  refine gb_istn_2 hC dX1_init_81 (by decide) ?_
  have hx := L k 0 (fun _ => 0) q0 q1 q2 q3 (by omega)
  have e0 : gb_ff (fun _ => 0) 0 = (fun _ => none) := by funext i; rw [gb_ff, if_neg (Nat.not_lt_zero i)]
  rw [e0] at hx
  exact hx
