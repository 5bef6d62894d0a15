/-! THE PACKER: begin, join, cut -/
theorem nI_b10 {a : Int32} : (¬ a < 1 ∧ a ≤ 10) ↔ ∃ m, 1 ≤ m ∧ m ≤ 10 ∧ a = nI m := by
  constructor
  · rintro ⟨h1, h2⟩
    have h0 : ¬ a < 0 := fun h => h1 (by
      rw [Int32.lt_iff_toInt_lt] at h ⊢
      have e0 : (0 : Int32).toInt = 0 := by decide
      have e1 : (1 : Int32).toInt = 1 := by decide
      omega)
    obtain ⟨j, hj, rfl⟩ := nI_of h0
    rw [show (1 : Int32) = nI 1 from rfl, nI_ltI hj (by omega)] at h1
    rw [show (10 : Int32) = nI 10 from rfl, nI_leI hj (by omega)] at h2
    exact ⟨j, by omega, h2, rfl⟩
  · rintro ⟨m, h1, h2, rfl⟩
    rw [show (1 : Int32) = nI 1 from rfl, nI_ltI (by omega) (by omega), show (10 : Int32) = nI 10 from rfl, nI_leI (by omega) (by omega)]
    omega
theorem kJ_of {σ : gm_S} {U V : Nat → Nat} {ps : Nat → Bool} {k : Nat} (h : kI σ U V ps k) : kJ σ k := by
  rcases h with h | ⟨q, sz, fol, g1, g2, g3, -⟩
  · exact h.1
  · exact ⟨g1, ⟨fol, g2⟩, g3⟩
theorem kJ_fr {σ σ2 : gm_S} {k : Nat} (h5 : σ2.1 (gm_P k) 5 = σ.1 (gm_P k) 5) (h4 : σ2.1 (gm_P k) 4 = σ.1 (gm_P k) 4) (h3 : σ2.2 (gm_P k + 3) = σ.2 (gm_P k + 3)) (h : kJ σ k) : kJ σ2 k := by
  obtain ⟨a1, ⟨fol, a2⟩, a3⟩ := h
  exact ⟨by rw [h5]; exact a1, ⟨fol, fun e he => by rw [h3]; exact a2 e he⟩, by rw [h4]; exact a3⟩
theorem fg_inv {σ σ2 : gm_S} {n : Nat} {ps : Nat → Bool} {U V : Nat → Nat} (hJ : ∀ k, k < 7 → kJ σ k) (hG : gG σ n ps U V) (h : gm_fr σ σ2 (fun x j => (∃ k, k < 7 ∧ x = gm_P k) ∧ j = 2) (fun _ => False)) (h0 : ∀ k, k < 7 → σ2.1 (gm_P k) 2 = 0) : kInv σ2 n ps U V ∧ kFR σ σ2 := by
  have hr : ∀ y, σ2.2 y = σ.2 y := fun y => h.2 y (fun z => z)
  obtain ⟨g1, g2, g3, g4, g5, g6, g7⟩ := hG
  refine ⟨⟨⟨g1, g2, ?_, ?_, g5, gL_cong (hr 2) (hr 3) g6, g7⟩, fun k hk => Or.inl ⟨kJ_fr (h.1 _ _ (fun z => by cases z.2)) (h.1 _ _ (fun z => by cases z.2)) (hr _) (hJ k hk), h0 k hk⟩⟩, gm_fr_mono h (fun x j hx => ?_) (fun _ z => absurd z id)⟩
  · rw [h.1 1 3 (fun z => by cases z.2)]; exact g3
  · rw [h.1 1 2 (fun z => by obtain ⟨⟨k, hk, e⟩, -⟩ := z; unfold gm_P at e; omega)]; exact g4
  · obtain ⟨⟨k, hk, e⟩, -⟩ := hx; unfold gm_P at e; omega
theorem nI_mn (a b : Nat) (ha : a < 2 ^ 31) (hb : b < 2 ^ 31) : (if nI b < nI a then nI b else nI a) = nI (min a b) := by
  by_cases h : b < a
  · rw [if_pos ((nI_ltI hb ha).mpr h), Nat.min_eq_right (by omega)]
  · rw [if_neg (fun z => h ((nI_ltI hb ha).mp z)), Nat.min_eq_left (by omega)]
theorem nI_mx (a b : Nat) (ha : a < 2 ^ 31) (hb : b < 2 ^ 31) : (if nI a < nI b then nI b else nI a) = nI (max a b) := by
  by_cases h : a < b
  · rw [if_pos ((nI_ltI ha hb).mpr h), Nat.max_eq_right (by omega)]
  · rw [if_neg (fun z => h ((nI_ltI ha hb).mp z)), Nat.max_eq_left (by omega)]
set_option maxHeartbeats 4000000 in
set_option maxRecDepth 100000 in
theorem c_X3_begin (l : Launch) (E : gm_E) (σ : gm_S) (n : Nat) (ps : Nat → Bool) (U V : Nat → Nat) (hI : kInv σ n ps U V) (a : Int32) : gm_MI l E yX3_begin (.code yX3_begin cX3_begin 3 (some .int) :: gw_T) { frames := 2, cells := 0, slots := 0, locals := 40 } [.ref (E.2.2 0), .int a] σ (fun r σ2 => kFR σ σ2 ∧ ((r = -2 ∧ (¬ ∃ m, 1 ≤ m ∧ m ≤ 10 ∧ a = nI m) ∧ kInv σ2 n ps U V) ∨ ∃ m, 1 ≤ m ∧ m ≤ 10 ∧ a = nI m ∧ r = jbc (σ.1 1 2) ∧ kInv σ2 m (fun _ => false) U V)) := by
  refine gm_enterI RX3 (by decide +kernel) rfl rfl (Nat.le_of_ble_eq_true rfl) (gm_c1_ok rfl) ?_
  intro X hC hR
  show gm_G X E 3 0 [some (.ref (E.2.2 0)), some (.int a), none] [] σ
  refine gi_ildn hC dX3_begin_0 rfl ?_
  refine gi_const hC (v := 1) dX3_begin_1 (by decide) ?_
  refine gi_icmp_lt hC 11 dX3_begin_2 (by decide) (fun h1 => ?_) (fun h1 => ?_)
  ·
    refine gi_bipush hC (v := -2) dX3_begin_11 (by decide) ?_
    exact hR _ _ _ _ rfl ⟨kFR_rf, Or.inl ⟨rfl, fun z => (nI_b10.mpr z).1 h1, hI⟩⟩ dX3_begin_13
  ·
    refine gi_ildn hC dX3_begin_5 rfl ?_
    refine gi_bipush hC (v := 10) dX3_begin_6 (by decide) ?_
    refine gi_icmp_le hC 14 dX3_begin_8 (by decide) (fun h2 => ?_) (fun h2 => ?_)
    ·
      obtain ⟨m, m1, m2, rfl⟩ := nI_b10.mp ⟨h1, h2⟩
      obtain ⟨⟨g1, g2, g3, g4, g5, g6, g7⟩, hI2⟩ := id hI
      refine gi_aldn hC dX3_begin_14 rfl ?_
      refine gf_K_graph hC gw_129 dX3_begin_15 ?_
      refine gk_VI (n := 0) hC (fun l => c_X0_edgeCount l E σ) (gm_o0 E) rfl (gw_V gw_140 gw_141 gw_142 gw_24 gw_143) rfl ⟨rfl, rfl⟩ rfl (by decide +kernel) ⟨by decide, by decide⟩ (Nat.le_of_ble_eq_true rfl) dX3_begin_18 (fun r σ1 h3 => ?_)
      obtain ⟨rfl, rfl⟩ := h3
      refine gi_istn_2 hC dX3_begin_21 (by decide) ?_
      refine gi_aldn hC dX3_begin_22 rfl ?_
      refine gf_K_graph hC gw_129 dX3_begin_23 ?_
      refine gi_ildn hC dX3_begin_26 rfl ?_
      refine pf_G_vertices hC gw_54 dX3_begin_27 ?_
      refine gi_aldn hC dX3_begin_30 rfl ?_
      refine gf_K_graph hC gw_129 dX3_begin_31 ?_
      refine gi_const hC (v := 0) dX3_begin_34 (by decide) ?_
      refine pf_G_present hC gw_52 dX3_begin_35 ?_
      refine gi_aldn hC dX3_begin_38 rfl ?_
      refine gk_VV (n := 0) hC (fun l => c_X3_forgetPackings l E _) (gm_o3 E) rfl (gw_V gw_150 gw_152 gw_0 gw_23 gw_153) rfl ⟨rfl, rfl⟩ rfl (by decide +kernel) ⟨by decide, by decide⟩ (Nat.le_of_ble_eq_true rfl) dX3_begin_39 (fun σ2 h4 => ?_)
      refine gi_ildn hC dX3_begin_42 rfl ?_
      have hJ : ∀ k, k < 7 → kJ (gm_sc (gm_sc σ1 1 3 (nI m)) 1 2 0) k := fun k hk => kJ_fr (σ := σ1) (by rw [gm_sc_n _ _ (by omega), gm_sc_n _ _ (by omega)]) (by rw [gm_sc_n _ _ (by omega), gm_sc_n _ _ (by omega)]) rfl (kJ_of (hI2 k hk))
      have hG : gG (gm_sc (gm_sc σ1 1 3 (nI m)) 1 2 0) m (fun _ => false) U V := ⟨m1, m2, by rw [gm_sc_n _ _ (by omega), gm_sc_1], by rw [gm_sc_1]; exact bm_0, fun _ _ => rfl, g6, fun e he => by cases he⟩
      obtain ⟨b1, b2⟩ := fg_inv hJ hG h4.1 h4.2
      exact hR _ _ _ _ rfl ⟨kFR_tr (gm_fr_tr (gm_fr_sc (by decide)) (gm_fr_sc (by decide))) b2, Or.inr ⟨m, m1, m2, rfl, rfl, b1⟩⟩ dX3_begin_43
    ·
      refine gi_bipush hC (v := -2) dX3_begin_11 (by decide) ?_
      exact hR _ _ _ _ rfl ⟨kFR_rf, Or.inl ⟨rfl, fun z => h2 (nI_b10.mpr z).2, hI⟩⟩ dX3_begin_13
set_option maxHeartbeats 4000000 in
set_option maxRecDepth 100000 in
theorem c_X3_join (l : Launch) (E : gm_E) (σ : gm_S) (n : Nat) (ps : Nat → Bool) (U V : Nat → Nat) (hI : kInv σ n ps U V) (a b : Int32) : gm_MI l E yX3_join (.code yX3_join cX3_join 4 (some .int) :: gw_T) { frames := 2, cells := 0, slots := 0, locals := 42 } [.ref (E.2.2 0), .int a, .int b] σ (fun r σ2 => kFR σ σ2 ∧ ((r = -2 ∧ (¬ ∃ i j, i < n ∧ j < n ∧ i ≠ j ∧ a = nI i ∧ b = nI j) ∧ kInv σ2 n ps U V) ∨ ∃ i j, i < n ∧ j < n ∧ i ≠ j ∧ a = nI i ∧ b = nI j ∧ ((r = -3 ∧ (∀ e, e < 24 → ps e = true) ∧ kInv σ2 n ps U V) ∨ ∃ e, e < 24 ∧ r = nI e ∧ ps e = false ∧ (∀ d, d < e → ps d = true) ∧ kInv σ2 n (fun d => ps d || decide (d = e)) (va_up U e (min i j)) (va_up V e (max i j))))) := by
  refine gm_enterI RX3 (by decide +kernel) rfl rfl (Nat.le_of_ble_eq_true rfl) (gm_c1_ok rfl) ?_
  intro X hC hR
  show gm_G X E 4 0 [some (.ref (E.2.2 0)), some (.int a), some (.int b), none] [] σ
  obtain ⟨⟨g1, g2, g3, g4, g5, g6, g7⟩, hI2⟩ := id hI
  refine gi_aldn hC dX3_join_0 rfl ?_
  refine gf_K_graph hC gw_129 dX3_join_1 ?_
  refine gi_ildn hC dX3_join_4 rfl ?_
  refine gk_VI (n := 1) hC (fun l => c_X0_hasVertex l E σ a) (gm_o0 E) rfl (gw_V gw_158 gw_159 gw_160 gw_24 gw_161) rfl ⟨rfl, rfl⟩ rfl (by decide +kernel) ⟨by decide, by decide⟩ (Nat.le_of_ble_eq_true rfl) dX3_join_5 (fun r σ1 h1 => ?_)
  obtain ⟨h1, rfl⟩ := h1
  rw [g3, nI_vx g2] at h1
  refine gi_if_eq hC 27 dX3_join_8 (by decide) (fun h2 => ?_) (fun h2 => ?_)
  ·
    have hn : ¬ ∃ j, j < n ∧ a = nI j := by
      rcases h1 with ⟨z, -⟩ | ⟨-, z⟩
      · rw [z] at h2; exact absurd h2 (by decide)
      · exact z
    refine gi_bipush hC (v := -2) dX3_join_27 (by decide) ?_
    exact hR _ _ _ _ rfl ⟨kFR_rf, Or.inl ⟨rfl, fun ⟨i, j, c1, c2, c3, c4, c5⟩ => hn ⟨i, c1, c4⟩, hI⟩⟩ dX3_join_29
  ·
    obtain ⟨i, hi, rfl⟩ : ∃ j, j < n ∧ a = nI j := by
      rcases h1 with ⟨-, z⟩ | ⟨z, -⟩
      · exact z
      · exact absurd z h2
    refine gi_aldn hC dX3_join_11 rfl ?_
    refine gf_K_graph hC gw_129 dX3_join_12 ?_
    refine gi_ildn hC dX3_join_15 rfl ?_
    refine gk_VI (n := 1) hC (fun l => c_X0_hasVertex l E σ1 b) (gm_o0 E) rfl (gw_V gw_158 gw_159 gw_160 gw_24 gw_161) rfl ⟨rfl, rfl⟩ rfl (by decide +kernel) ⟨by decide, by decide⟩ (Nat.le_of_ble_eq_true rfl) dX3_join_16 (fun r2 σ2 h3 => ?_)
    obtain ⟨h3, rfl⟩ := h3
    rw [g3, nI_vx g2] at h3
    refine gi_if_eq hC 27 dX3_join_19 (by decide) (fun h4 => ?_) (fun h4 => ?_)
    ·
      have hn : ¬ ∃ j, j < n ∧ b = nI j := by
        rcases h3 with ⟨z, -⟩ | ⟨-, z⟩
        · rw [z] at h4; exact absurd h4 (by decide)
        · exact z
      refine gi_bipush hC (v := -2) dX3_join_27 (by decide) ?_
      exact hR _ _ _ _ rfl ⟨kFR_rf, Or.inl ⟨rfl, fun ⟨i, j, c1, c2, c3, c4, c5⟩ => hn ⟨j, c2, c5⟩, hI⟩⟩ dX3_join_29
    ·
      obtain ⟨j, hj, rfl⟩ : ∃ j, j < n ∧ b = nI j := by
        rcases h3 with ⟨-, z⟩ | ⟨z, -⟩
        · exact z
        · exact absurd z h4
      refine gi_ildn hC dX3_join_22 rfl ?_
      refine gi_ildn hC dX3_join_23 rfl ?_
      refine gi_icmp_ne hC 30 dX3_join_24 (by decide) (fun h5 => ?_) (fun h5 => ?_)
      ·
        have hij : i ≠ j := fun e => h5 (by rw [e])
        refine gi_aldn hC dX3_join_30 rfl ?_
        refine gf_K_graph hC gw_129 dX3_join_31 ?_
        refine gk_VI (n := 0) hC (fun l => c_X0_leastFree l E σ2) (gm_o0 E) rfl (gw_V gw_162 gw_163 gw_164 gw_24 gw_165) rfl ⟨rfl, rfl⟩ rfl (by decide +kernel) ⟨by decide, by decide⟩ (Nat.le_of_ble_eq_true rfl) dX3_join_34 (fun r3 σ3 h6 => ?_)
        obtain ⟨rfl, h6⟩ := h6
        rcases h6 with ⟨e, he, rfl, e1, e2⟩ | ⟨rfl, h6⟩
        ·
          refine gi_istn_3 hC dX3_join_37 (by decide) ?_
          refine gi_ildn hC dX3_join_38 rfl ?_
          refine gi_const hC (v := -1) dX3_join_39 (by decide) ?_
          refine gi_icmp_ne hC 46 dX3_join_40 (by decide) (fun h7 => ?_) (fun h7 => ?_)
          ·
            refine gi_aldn hC dX3_join_46 rfl ?_
            refine gf_K_graph hC gw_129 dX3_join_47 ?_
            refine gf_G_lesser hC gw_47 dX3_join_50 ?_
            refine gi_ildn hC dX3_join_53 rfl ?_
            refine gi_ildn hC dX3_join_54 rfl ?_
            refine gi_ildn hC dX3_join_55 rfl ?_
            refine gk_min hC gwl_min_X3 (by decide) (Nat.le_of_ble_eq_true rfl) dX3_join_56 ?_
            rw [nI_mn i j (by omega) (by omega)]
            refine gi_iast hC (gm_i2 E) he rfl (by first | decide | omega) dX3_join_59 ?_
            refine gi_aldn hC dX3_join_60 rfl ?_
            refine gf_K_graph hC gw_129 dX3_join_61 ?_
            refine gf_G_greater hC gw_50 dX3_join_64 ?_
            refine gi_ildn hC dX3_join_67 rfl ?_
            refine gi_ildn hC dX3_join_68 rfl ?_
            refine gi_ildn hC dX3_join_69 rfl ?_
            refine gk_max hC gwl_max_X3 (by decide) (Nat.le_of_ble_eq_true rfl) dX3_join_70 ?_
            rw [nI_mx i j (by omega) (by omega)]
            refine gi_iast hC (gm_i3 E) he rfl (by first | decide | omega) dX3_join_73 ?_
            refine gi_aldn hC dX3_join_74 rfl ?_
            refine gf_K_graph hC gw_129 dX3_join_75 ?_
            refine gi_dup hC dX3_join_78 rfl ?_
            refine gf_G_present hC gw_52 dX3_join_79 ?_
            refine gi_const hC (v := 1) dX3_join_82 (by decide) ?_
            refine gi_ildn hC dX3_join_83 rfl ?_
            refine gi_ishl hC dX3_join_84 ?_
            refine gi_ior hC dX3_join_85 ?_
            refine pf_G_present hC gw_52 dX3_join_86 ?_
            refine gi_aldn hC dX3_join_89 rfl ?_
            have hpe : ps e = false := by rw [← g4 e (by omega)]; exact e1
            have hpd : ∀ d, d < e → ps d = true := fun d hd => by rw [← g4 d (by omega)]; exact e2 d hd
            obtain ⟨σ4, hσ4⟩ : ∃ z, z = gm_ar (gm_ar σ3 2 e (nI (min i j))) 3 e (nI (max i j)) := ⟨_, rfl⟩
            rw [← hσ4]
            have f1 : σ4.1 = σ3.1 := by rw [hσ4]; rfl
            have f2 : ∀ y, y ≠ 2 → y ≠ 3 → σ4.2 y = σ3.2 y := fun y y2 y3 => by rw [hσ4, gm_ar_r _ _ y3, gm_ar_r _ _ y2]
            have f3 : gL σ4 (va_up U e (min i j)) (va_up V e (max i j)) := by
              intro d hd
              obtain ⟨c1, c2, c3, c4⟩ := g6 d hd
              by_cases hde : d = e
              · subst hde
                rw [va_up_self, va_up_self, hσ4, gm_ar_n _ _ (by omega), gm_ar_2, gm_ar_2]
                exact ⟨rfl, rfl, by omega, by omega⟩
              · rw [va_up_ne _ _ hde, va_up_ne _ _ hde, hσ4, gm_ar_n _ _ (by omega), gm_ar_n _ _ (fun z => hde z.2), gm_ar_n _ _ (fun z => hde z.2), gm_ar_n _ _ (by omega)]
                exact ⟨c1, c2, c3, c4⟩
            refine gk_VV (n := 0) hC (fun l => c_X3_forgetPackings l E _) (gm_o3 E) rfl (gw_V gw_150 gw_152 gw_0 gw_23 gw_153) rfl ⟨rfl, rfl⟩ rfl (by decide +kernel) ⟨by decide, by decide⟩ (Nat.le_of_ble_eq_true rfl) dX3_join_90 (fun σ5 h8 => ?_)
            refine gi_ildn hC dX3_join_93 rfl ?_
            have hJ : ∀ k, k < 7 → kJ (gm_sc σ4 1 2 (σ4.1 1 2 ||| 1 <<< (nI e &&& 31))) k := fun k hk => kJ_fr (σ := σ3) (by rw [gm_sc_n _ _ (by omega), f1]) (by rw [gm_sc_n _ _ (by omega), f1]) (f2 (gm_P k + 3) (by show 20 + 30 * k + 3 ≠ 2; omega) (by show 20 + 30 * k + 3 ≠ 3; omega)) (kJ_of (hI2 k hk))
            have hG : gG (gm_sc σ4 1 2 (σ4.1 1 2 ||| 1 <<< (nI e &&& 31))) n (fun d => ps d || decide (d = e)) (va_up U e (min i j)) (va_up V e (max i j)) := by
              refine ⟨g1, g2, by rw [gm_sc_n _ _ (by omega), f1]; exact g3, by rw [gm_sc_1, f1]; exact bm_or g4 (bm_pow (by omega)), fun d hd => ?_, f3, fun d hd => ?_⟩
              · show (ps d || decide (d = e)) = false
                rw [g5 d hd]; simp; omega
              · by_cases hde : d = e
                · subst hde
                  rw [va_up_self, va_up_self]
                  omega
                · rw [va_up_ne _ _ hde, va_up_ne _ _ hde]
                  exact g7 d (by simpa [hde] using hd)
            obtain ⟨b1, b2⟩ := fg_inv hJ hG h8.1 h8.2
            have b3 : kFR σ3 (gm_sc σ4 1 2 (σ4.1 1 2 ||| 1 <<< (nI e &&& 31))) := by
              rw [hσ4]
              exact gm_fr_tr (gm_fr_tr (gm_fr_ar (by omega)) (gm_fr_ar (by omega))) (gm_fr_sc (by decide))
            exact hR _ _ _ _ rfl ⟨kFR_tr b3 b2, Or.inr ⟨i, j, hi, hj, hij, rfl, rfl, Or.inr ⟨e, he, rfl, hpe, hpd, b1⟩⟩⟩ dX3_join_94
          · exact absurd h7 (fun z => absurd (z ▸ (show (-1 : Int32) < 0 by decide)) (nI_pos (n := e) (by omega)))
        ·
          refine gi_istn_3 hC dX3_join_37 (by decide) ?_
          refine gi_ildn hC dX3_join_38 rfl ?_
          refine gi_const hC (v := -1) dX3_join_39 (by decide) ?_
          refine gi_icmp_ne hC 46 dX3_join_40 (by decide) (fun h7 => ?_) (fun h7 => ?_)
          · exact absurd rfl h7
          ·
            refine gi_bipush hC (v := -3) dX3_join_43 (by decide) ?_
            exact hR _ _ _ _ rfl ⟨kFR_rf, Or.inr ⟨i, j, hi, hj, hij, rfl, rfl, Or.inl ⟨rfl, fun d hd => (by rw [← g4 d (by omega)]; exact h6 d hd), hI⟩⟩⟩ dX3_join_45
      ·
        have hij : i = j := (nI_eq (by omega) (by omega)).mp h5
        refine gi_bipush hC (v := -2) dX3_join_27 (by decide) ?_
        exact hR _ _ _ _ rfl ⟨kFR_rf, Or.inl ⟨rfl, fun ⟨i2, j2, c1, c2, c3, c4, c5⟩ => c3 (by rw [← (nI_eq (by omega) (by omega)).mp c4, ← (nI_eq (by omega) (by omega)).mp c5, hij]), hI⟩⟩ dX3_join_29
set_option maxHeartbeats 4000000 in
set_option maxRecDepth 100000 in
theorem c_X3_cut (l : Launch) (E : gm_E) (σ : gm_S) (n : Nat) (ps : Nat → Bool) (U V : Nat → Nat) (hI : kInv σ n ps U V) (a : Int32) : gm_MI l E yX3_cut (.code yX3_cut cX3_cut 2 (some .int) :: gw_T) { frames := 1, cells := 0, slots := 0, locals := 21 } [.ref (E.2.2 0), .int a] σ (fun r σ2 => kFR σ σ2 ∧ ((r = -1 ∧ (¬ ∃ e, e < 24 ∧ a = nI e ∧ ps e = true) ∧ kInv σ2 n ps U V) ∨ ∃ e, e < 24 ∧ a = nI e ∧ ps e = true ∧ r = nI (U e * 10 + V e) ∧ kInv σ2 n (fun d => ps d && !decide (d = e)) U V)) := by
  refine gm_enterI RX3 (by decide +kernel) rfl rfl (Nat.le_of_ble_eq_true rfl) (gm_c1_ok rfl) ?_
  intro X hC hR
  show gm_G X E 2 0 [some (.ref (E.2.2 0)), some (.int a)] [] σ
  obtain ⟨⟨g1, g2, g3, g4, g5, g6, g7⟩, hI2⟩ := id hI
  refine gi_aldn hC dX3_cut_0 rfl ?_
  refine gf_K_graph hC gw_129 dX3_cut_1 ?_
  refine gi_ildn hC dX3_cut_4 rfl ?_
  refine gk_VI (n := 1) hC (fun l => c_X0_hasEdge l E σ a) (gm_o0 E) rfl (gw_V gw_178 gw_167 gw_168 gw_24 gw_169) rfl ⟨rfl, rfl⟩ rfl (by decide +kernel) ⟨by decide, by decide⟩ (Nat.le_of_ble_eq_true rfl) dX3_cut_5 (fun r σ1 h1 => ?_)
  obtain ⟨h1, rfl⟩ := h1
  rw [gE_ex g4] at h1
  refine gi_if_ne hC 13 dX3_cut_8 (by decide) (fun h2 => ?_) (fun h2 => ?_)
  ·
    obtain ⟨e, he, rfl, hpe⟩ : ∃ j, j < 24 ∧ a = nI j ∧ ps j = true := by
      rcases h1 with ⟨-, z⟩ | ⟨z, -⟩
      · exact z
      · exact absurd z h2
    obtain ⟨c1, c2, c3, c4⟩ := g6 e he
    refine gi_aldn hC dX3_cut_13 rfl ?_
    refine gf_K_graph hC gw_129 dX3_cut_14 ?_
    refine gi_dup hC dX3_cut_17 rfl ?_
    refine gf_G_present hC gw_52 dX3_cut_18 ?_
    refine gi_const hC (v := 1) dX3_cut_21 (by decide) ?_
    refine gi_ildn hC dX3_cut_22 rfl ?_
    refine gi_ishl hC dX3_cut_23 ?_
    refine gi_const hC (v := -1) dX3_cut_24 (by decide) ?_
    refine gi_ixor hC dX3_cut_25 ?_
    refine gi_iand hC dX3_cut_26 ?_
    refine pf_G_present hC gw_52 dX3_cut_27 ?_
    refine gi_aldn hC dX3_cut_30 rfl ?_
    refine gk_VV (n := 0) hC (fun l => c_X3_forgetPackings l E _) (gm_o3 E) rfl (gw_V gw_150 gw_152 gw_0 gw_23 gw_153) rfl ⟨rfl, rfl⟩ rfl (by decide +kernel) ⟨by decide, by decide⟩ (Nat.le_of_ble_eq_true rfl) dX3_cut_31 (fun σ5 h8 => ?_)
    have hr5 : ∀ y, σ5.2 y = σ1.2 y := fun y => h8.1.2 y (fun z => z)
    refine gi_aldn hC dX3_cut_34 rfl ?_
    refine gf_K_graph hC gw_129 dX3_cut_35 ?_
    refine gf_G_lesser hC gw_47 dX3_cut_38 ?_
    refine gi_ildn hC dX3_cut_41 rfl ?_
    refine gi_iald hC (gm_i2 E) he rfl (by first | decide | omega) dX3_cut_42 ?_
    rw [hr5, c1]
    refine gi_bipush hC (v := 10) dX3_cut_43 (by decide) ?_
    refine gi_imul hC dX3_cut_45 ?_
    refine gi_aldn hC dX3_cut_46 rfl ?_
    refine gf_K_graph hC gw_129 dX3_cut_47 ?_
    refine gf_G_greater hC gw_50 dX3_cut_50 ?_
    refine gi_ildn hC dX3_cut_53 rfl ?_
    refine gi_iald hC (gm_i3 E) he rfl (by first | decide | omega) dX3_cut_54 ?_
    rw [hr5, c2]
    refine gi_iadd hC dX3_cut_55 ?_
    rw [show nI (U e) * 10 + nI (V e) = nI (U e * 10 + V e) by rw [show (10 : Int32) = nI 10 from rfl, pk_mul, nI_add]]
    have hJ : ∀ k, k < 7 → kJ (gm_sc σ1 1 2 (σ1.1 1 2 &&& (1 <<< (nI e &&& 31) ^^^ -1))) k := fun k hk => kJ_fr (σ := σ1) (by rw [gm_sc_n _ _ (by omega)]) (by rw [gm_sc_n _ _ (by omega)]) rfl (kJ_of (hI2 k hk))
    have hG : gG (gm_sc σ1 1 2 (σ1.1 1 2 &&& (1 <<< (nI e &&& 31) ^^^ -1))) n (fun d => ps d && !decide (d = e)) U V := by
      refine ⟨g1, g2, by rw [gm_sc_n _ _ (by omega)]; exact g3, by rw [gm_sc_1]; exact bm_and g4 (bm_not (bm_pow (by omega))), fun d hd => (by show (ps d && !decide (d = e)) = false; rw [g5 d hd]; rfl), g6, fun d hd => g7 d (by simp at hd; exact hd.1)⟩
    obtain ⟨b1, b2⟩ := fg_inv hJ hG h8.1 h8.2
    exact hR _ _ _ _ rfl ⟨kFR_tr (gm_fr_sc (by decide)) b2, Or.inr ⟨e, he, rfl, hpe, rfl, b1⟩⟩ dX3_cut_56
  ·
    have hn : ¬ ∃ j, j < 24 ∧ a = nI j ∧ ps j = true := by
      rcases h1 with ⟨z, -⟩ | ⟨-, z⟩
      · rw [z] at h2; exact absurd h2 (by decide)
      · exact z
    refine gi_const hC (v := -1) dX3_cut_11 (by decide) ?_
    exact hR _ _ _ _ rfl ⟨kFR_rf, Or.inl ⟨rfl, hn, hI⟩⟩ dX3_cut_12
