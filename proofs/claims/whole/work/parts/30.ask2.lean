/-! THE PACKER: why, classes, crossing, arboricity, dense, spanning, told -/
set_option maxHeartbeats 4000000 in
set_option maxRecDepth 100000 in
theorem c_X3_why (l : Launch) (E : gm_E) (σ : gm_S) (n : Nat) (ps : Nat → Bool) (U V : Nat → Nat) (hI : kInv σ n ps U V) (k a f : Int32) : gm_MI l E yX3_why (.code yX3_why cX3_why 6 (some .int) :: gw_T) { frames := 5, cells := 0, slots := 0, locals := 122 } [.ref (E.2.2 0), .int k, .int a, .int f] σ (fun r σ2 => kFR σ σ2 ∧ kInv σ2 n ps U V ∧ ((r = -2 ∧ ¬ ∃ j, j < 7 ∧ k = nI j) ∨ ∃ kk, kk < 7 ∧ k = nI kk ∧ ((r = -1 ∧ ¬ ((∃ e, e < 24 ∧ a = nI e ∧ ps e = true) ∧ (f = -1 ∨ ∃ e, e < 24 ∧ f = nI e ∧ ps e = true))) ∨ ∃ e, e < 24 ∧ a = nI e ∧ ps e = true ∧ (f = -1 ∨ ∃ d, d < 24 ∧ f = nI d ∧ ps d = true) ∧ ∃ q sz b, pkd kk U V ps q sz b ∧ ((q.1 e ≠ none ∧ r = -1) ∨ (q.1 e = none ∧ ∃ fol m, bm m (rsn kk U V ps q e fol) ∧ ((f = -1 ∧ r = jbc m) ∨ ∃ d, d < 24 ∧ f = nI d ∧ r = if bt m d = true then 1 else 0)))))) := by
  refine gm_enterI RX3 (by decide +kernel) rfl rfl (Nat.le_of_ble_eq_true rfl) (gm_c1_ok rfl) ?_
  intro X hC hR
  show gm_G X E 6 0 [some (.ref (E.2.2 0)), some (.int k), some (.int a), some (.int f), none, none] [] σ
  obtain ⟨g1, g2, g3, g4, g5, g6, g7⟩ := id hI.1
  refine gi_ildn hC dX3_why_0 rfl ?_
  refine gk_SI (n := 1) hC (fun l => c_X3_isForestCount l E σ k) (gw_S gw_183 gw_184 gw_23 gw_185) rfl ⟨rfl, rfl⟩ rfl (by decide +kernel) ⟨by decide, by decide⟩ (Nat.le_of_ble_eq_true rfl) dX3_why_1 (fun r σ1 h1 => ?_)
  obtain ⟨h1, rfl⟩ := h1
  refine gi_if_ne hC 10 dX3_why_4 (by decide) (fun h2 => ?_) (fun h2 => ?_)
  ·
    obtain ⟨kk, hk, rfl⟩ : ∃ j, j < 7 ∧ k = nI j := by
      rcases h1 with ⟨-, z⟩ | ⟨z, -⟩
      · exact z
      · exact absurd z h2
    refine gi_aldn hC dX3_why_10 rfl ?_
    refine gf_K_graph hC gw_129 dX3_why_11 ?_
    refine gi_ildn hC dX3_why_14 rfl ?_
    refine gk_VI (n := 1) hC (fun l => c_X0_hasEdge l E σ1 a) (gm_o0 E) rfl (gw_V gw_178 gw_167 gw_168 gw_24 gw_169) rfl ⟨rfl, rfl⟩ rfl (by decide +kernel) ⟨by decide, by decide⟩ (Nat.le_of_ble_eq_true rfl) dX3_why_15 (fun r3 σ3 h3 => ?_)
    obtain ⟨h3, rfl⟩ := h3
    rw [gE_ex g4] at h3
    have KK : ∀ e, e < 24 → a = nI e → ps e = true → (f = -1 ∨ ∃ d, d < 24 ∧ f = nI d ∧ ps d = true) → ∀ w4 w5 : Option Value, gm_G X E 6 39 [some (.ref (E.2.2 0)), some (.int (nI kk)), some (.int a), some (.int f), w4, w5] [] σ3 := by
      intro e he ha hpe hf w4 w5
      subst ha
      refine gi_aldn hC dX3_why_39 rfl ?_
      refine gi_ildn hC dX3_why_40 rfl ?_
      refine gk_VR (n := 1) hC (fun l => c_X3_packed l E σ3 n ps U V hI kk hk) (gm_o3 E) rfl (gw_V gw_186 gw_188 gw_1 gw_23 gw_189) rfl ⟨rfl, rfl⟩ rfl (by decide +kernel) ⟨by decide, by decide⟩ (Nat.le_of_ble_eq_true rfl) dX3_why_41 (fun σ2 h9 => ?_)
      obtain ⟨h9f, q, sz, fol, hP⟩ := h9
      have hI2 := kInv_up bl_blk h9f hI (kP_kI hP)
      have hfr := kFR_blk bl_blk h9f
      obtain ⟨p1, p2⟩ := hP.2.2.2.2.1.1 e he
      refine gi_ast_4 hC dX3_why_44 (by decide) ?_
      refine gi_ald hC dX3_why_46 rfl ?_
      refine gf_P_place hC hk gw_90 dX3_why_48 ?_
      refine gi_ildn hC dX3_why_51 rfl ?_
      refine gi_iald hC (gm_iR E hk 1 (by decide) (by decide)) he rfl (by first | decide | omega) dX3_why_52 ?_
      rw [p1]
      refine gi_const hC (v := -1) dX3_why_53 (by decide) ?_
      refine gi_icmp_eq hC 59 dX3_why_54 (by decide) (fun h5 => ?_) (fun h5 => ?_)
      ·
        have hq := (oI_m1 (oI_in p2 (by omega))).mp h5
        refine gi_ald hC dX3_why_59 rfl ?_
        refine gi_aldn hC dX3_why_61 rfl ?_
        refine gf_K_graph hC gw_129 dX3_why_62 ?_
        refine gi_ildn hC dX3_why_65 rfl ?_
        refine gk_VI (n := 2) hC (fun l => c_X1_reason l E hk σ2 U V (gL_mv h9f g6) ps (ps_fr bl_blk h9f g4) q hP.2.2.2.2.1 (fun _ => false) (kfx hP) fol hP.2.1 e he) (gm_o1 E hk) rfl (gw_V gw_262 gw_263 gw_264 gw_25 gw_265) rfl ⟨rfl, rfl⟩ rfl (by decide +kernel) ⟨by decide, by decide⟩ (Nat.le_of_ble_eq_true rfl) dX3_why_66 (fun m σ4 h6 => ?_)
        obtain ⟨c1, c2, c3⟩ := h6
        have hP4 := kP_sr hk c1 hP c2.2.2.2.2
        have hI4 := kInv_up sr_blk (mv_sr c1) hI2 (kP_kI hP4)
        have hfr4 := kFR_tr hfr (kFR_blk sr_blk (mv_sr c1))
        refine gi_ist_5 hC dX3_why_69 (by decide) ?_
        refine gi_ildn hC dX3_why_71 rfl ?_
        refine gi_const hC (v := -1) dX3_why_72 (by decide) ?_
        refine gi_icmp_ne hC 84 dX3_why_73 (by decide) (fun h7 => ?_) (fun h7 => ?_)
        ·
          obtain ⟨d, hd, rfl, hpd⟩ := hf.elim (fun z => absurd z h7) id
          refine gi_ild hC dX3_why_84 rfl ?_
          refine gi_ildn hC dX3_why_86 rfl ?_
          refine gi_ishr hC dX3_why_87 ?_
          refine gi_const hC (v := 1) dX3_why_88 (by decide) ?_
          refine gi_iand hC dX3_why_89 ?_
          rw [b_tst m (by omega)]
          exact hR _ _ _ _ rfl ⟨hfr4, hI4, Or.inr ⟨kk, hk, rfl, Or.inr ⟨e, he, rfl, hpe, hf, q, sz, _, hP.2.2.2.2.2.2, Or.inr ⟨hq, fol, m, c3, Or.inr ⟨d, hd, rfl, rfl⟩⟩⟩⟩⟩ dX3_why_90
        ·
          subst h7
          refine gi_ild hC dX3_why_76 rfl ?_
          refine gk_SI (n := 1) hC (fun l => c_J6_bitCount_0f7a4 l E σ4 _) (gw_S gw_266 gw_145 gw_29 gw_146) rfl ⟨rfl, rfl⟩ rfl (by decide +kernel) ⟨by decide, by decide⟩ (Nat.le_of_ble_eq_true rfl) dX3_why_78 (fun r8 σ8 h8 => ?_)
          obtain ⟨rfl, rfl⟩ := h8
          refine gi_goto hC 90 dX3_why_81 (by decide) ?_
          exact hR _ _ _ _ rfl ⟨hfr4, hI4, Or.inr ⟨kk, hk, rfl, Or.inr ⟨e, he, rfl, hpe, hf, q, sz, _, hP.2.2.2.2.2.2, Or.inr ⟨hq, fol, m, c3, Or.inl ⟨rfl, rfl⟩⟩⟩⟩⟩ dX3_why_90
      ·
        have hq : q.1 e ≠ none := fun z => h5 ((oI_m1 (oI_in p2 (by omega))).mpr z)
        refine gi_const hC (v := -1) dX3_why_57 (by decide) ?_
        exact hR _ _ _ _ rfl ⟨hfr, hI2, Or.inr ⟨kk, hk, rfl, Or.inr ⟨e, he, rfl, hpe, hf, q, sz, _, hP.2.2.2.2.2.2, Or.inl ⟨hq, rfl⟩⟩⟩⟩ dX3_why_58
    refine gi_if_eq hC 37 dX3_why_18 (by decide) (fun h4 => ?_) (fun h4 => ?_)
    ·
      have hna : ¬ ∃ j, j < 24 ∧ a = nI j ∧ ps j = true := by
        rcases h3 with ⟨z, -⟩ | ⟨-, z⟩
        · rw [z] at h4; exact absurd h4 (by decide)
        · exact z
      refine gi_const hC (v := -1) dX3_why_37 (by decide) ?_
      exact hR _ _ _ _ rfl ⟨kFR_rf, hI, Or.inr ⟨kk, hk, rfl, Or.inl ⟨rfl, fun z => hna z.1⟩⟩⟩ dX3_why_38
    ·
      obtain ⟨e, he, ha, hpe⟩ : ∃ j, j < 24 ∧ a = nI j ∧ ps j = true := by
        rcases h3 with ⟨-, z⟩ | ⟨z, -⟩
        · exact z
        · exact absurd z h4
      refine gi_ildn hC dX3_why_21 rfl ?_
      refine gi_const hC (v := -1) dX3_why_22 (by decide) ?_
      refine gi_icmp_eq hC 39 dX3_why_23 (by decide) (fun h5 => ?_) (fun h5 => ?_)
      · exact KK e he ha hpe (Or.inl h5) _ _
      ·
        refine gi_aldn hC dX3_why_26 rfl ?_
        refine gf_K_graph hC gw_129 dX3_why_27 ?_
        refine gi_ildn hC dX3_why_30 rfl ?_
        refine gk_VI (n := 1) hC (fun l => c_X0_hasEdge l E σ3 f) (gm_o0 E) rfl (gw_V gw_178 gw_167 gw_168 gw_24 gw_169) rfl ⟨rfl, rfl⟩ rfl (by decide +kernel) ⟨by decide, by decide⟩ (Nat.le_of_ble_eq_true rfl) dX3_why_31 (fun r6 σ6 h6 => ?_)
        obtain ⟨h6, rfl⟩ := h6
        rw [gE_ex g4] at h6
        refine gi_if_ne hC 39 dX3_why_34 (by decide) (fun h7 => ?_) (fun h7 => ?_)
        ·
          have hf : ∃ j, j < 24 ∧ f = nI j ∧ ps j = true := by
            rcases h6 with ⟨-, z⟩ | ⟨z, -⟩
            · exact z
            · exact absurd z h7
          exact KK e he ha hpe (Or.inr hf) _ _
        ·
          have hnf : ¬ ∃ j, j < 24 ∧ f = nI j ∧ ps j = true := by
            rcases h6 with ⟨z, -⟩ | ⟨-, z⟩
            · rw [z] at h7; exact absurd h7 (by decide)
            · exact z
          refine gi_const hC (v := -1) dX3_why_37 (by decide) ?_
          exact hR _ _ _ _ rfl ⟨kFR_rf, hI, Or.inr ⟨kk, hk, rfl, Or.inl ⟨rfl, fun z => z.2.elim h5 hnf⟩⟩⟩ dX3_why_38
  ·
    have hn : ¬ ∃ j, j < 7 ∧ k = nI j := by
      rcases h1 with ⟨z, -⟩ | ⟨-, z⟩
      · rw [z] at h2; exact absurd h2 (by decide)
      · exact z
    refine gi_bipush hC (v := -2) dX3_why_7 (by decide) ?_
    exact hR _ _ _ _ rfl ⟨kFR_rf, hI, Or.inl ⟨rfl, hn⟩⟩ dX3_why_9
set_option maxHeartbeats 4000000 in
set_option maxRecDepth 100000 in
theorem c_X3_classes (l : Launch) (E : gm_E) (σ : gm_S) (n : Nat) (ps : Nat → Bool) (U V : Nat → Nat) (hI : kInv σ n ps U V) (k : Int32) : gm_MI l E yX3_classes (.code yX3_classes cX3_classes 5 (some .int) :: gw_T) { frames := 5, cells := 0, slots := 0, locals := 122 } [.ref (E.2.2 0), .int k] σ (fun r σ2 => kFR σ σ2 ∧ kInv σ2 n ps U V ∧ ((r = -2 ∧ ¬ ∃ j, j < 7 ∧ k = nI j) ∨ ∃ kk, kk < 7 ∧ k = nI kk ∧ ∃ q sz b, pkd kk U V ps q sz b ∧ ∃ fol, r = nI (cl_lp kk U V ps q n 0 0 fol).1)) := by
  refine gm_enterI RX3 (by decide +kernel) rfl rfl (Nat.le_of_ble_eq_true rfl) (gm_c1_ok rfl) ?_
  intro X hC hR
  show gm_G X E 5 0 [some (.ref (E.2.2 0)), some (.int k), none, none, none] [] σ
  obtain ⟨g1, g2, g3, g4, g5, g6, g7⟩ := id hI.1
  refine gi_ildn hC dX3_classes_0 rfl ?_
  refine gk_SI (n := 1) hC (fun l => c_X3_isForestCount l E σ k) (gw_S gw_183 gw_184 gw_23 gw_185) rfl ⟨rfl, rfl⟩ rfl (by decide +kernel) ⟨by decide, by decide⟩ (Nat.le_of_ble_eq_true rfl) dX3_classes_1 (fun r σ1 h1 => ?_)
  obtain ⟨h1, rfl⟩ := h1
  refine gi_if_ne hC 10 dX3_classes_4 (by decide) (fun h2 => ?_) (fun h2 => ?_)
  ·
    obtain ⟨kk, hk, rfl⟩ : ∃ j, j < 7 ∧ k = nI j := by
      rcases h1 with ⟨-, z⟩ | ⟨z, -⟩
      · exact z
      · exact absurd z h2
    refine gi_aldn hC dX3_classes_10 rfl ?_
    refine gi_ildn hC dX3_classes_11 rfl ?_
    refine gk_VR (n := 1) hC (fun l => c_X3_packed l E σ1 n ps U V hI kk hk) (gm_o3 E) rfl (gw_V gw_186 gw_188 gw_1 gw_23 gw_189) rfl ⟨rfl, rfl⟩ rfl (by decide +kernel) ⟨by decide, by decide⟩ (Nat.le_of_ble_eq_true rfl) dX3_classes_12 (fun σ2 h9 => ?_)
    obtain ⟨h9f, q, sz, fol, hP⟩ := h9
    have hI2 := kInv_up bl_blk h9f hI (kP_kI hP)
    have hfr := kFR_blk bl_blk h9f
    obtain ⟨Z, hZ⟩ : ∃ Z, Z = cl_lp kk U V ps q n 0 0 fol := ⟨_, rfl⟩
    have L : ∀ m v c fo (σ3 : gm_S), v + m = n → kFR σ1 σ3 → kInv σ3 n ps U V → kP σ3 U V ps kk q sz fo → Z = cl_lp kk U V ps q m v c fo → gm_G X E 5 21 [some (.ref (E.2.2 0)), some (.int (nI kk)), some (.ref (E.2.2 (gm_P kk))), some (.int (nI c)), some (.int (nI v))] [] σ3 := by
      intro m
      induction m with
      | zero =>
        intro v c fo σ3 hv hf3 hI3 hP3 hw
        have hv : v = n := by omega
        subst hv
        rw [cl_lp] at hw
        obtain ⟨k1, k2, k3, k4, k5, k6, k7⟩ := id hI3.1
        refine gi_ild hC dX3_classes_21 rfl ?_
        refine gi_aldn hC dX3_classes_23 rfl ?_
        refine gf_K_graph hC gw_129 dX3_classes_24 ?_
        refine gf_G_vertices hC gw_54 dX3_classes_27 ?_
        rw [k3]
        refine gi_icmp_ge hC 55 dX3_classes_30 (by decide) (fun h5 => ?_) (fun h5 => ?_)
        ·
          refine gi_ildn hC dX3_classes_55 rfl ?_
          exact hR _ _ _ _ rfl ⟨hf3, hI3, Or.inr ⟨kk, hk, rfl, q, sz, _, hP.2.2.2.2.2.2, fol, by rw [← hZ, hw]⟩⟩ dX3_classes_56
        · exact absurd (Int32.le_refl _) h5
      | succ m ih =>
        intro v c fo σ3 hv hf3 hI3 hP3 hw
        obtain ⟨k1, k2, k3, k4, k5, k6, k7⟩ := id hI3.1
        rw [cl_lp] at hw
        refine gi_ild hC dX3_classes_21 rfl ?_
        refine gi_aldn hC dX3_classes_23 rfl ?_
        refine gf_K_graph hC gw_129 dX3_classes_24 ?_
        refine gf_G_vertices hC gw_54 dX3_classes_27 ?_
        rw [k3]
        refine gi_icmp_ge hC 55 dX3_classes_30 (by decide) (fun h5 => ?_) (fun h5 => ?_)
        · exact absurd h5 (nI_ge (a := v) (b := n) (by omega) (by omega))
        ·
          refine gi_aldn hC dX3_classes_33 rfl ?_
          refine gi_aldn hC dX3_classes_34 rfl ?_
          refine gf_K_graph hC gw_129 dX3_classes_35 ?_
          refine gi_ild hC dX3_classes_38 rfl ?_
          refine gk_VI (n := 2) hC (fun l => c_X1_isFirstOfClass l E hk σ3 U V k6 ps k4 q hP3.2.2.2.2.1 (fun _ => false) (kfx hP3) fo hP3.2.1 v (by omega)) (gm_o1 E hk) rfl (gw_V gw_276 gw_277 gw_278 gw_25 gw_279) rfl ⟨rfl, rfl⟩ rfl (by decide +kernel) ⟨by decide, by decide⟩ (Nat.le_of_ble_eq_true rfl) dX3_classes_40 (fun r6 σ6 h6 => ?_)
          obtain ⟨c1, c2, c3⟩ := h6
          generalize ifc kk U V ps q (fun _ => false) v v 0 fo = z at hw c2 c3
          obtain ⟨z1, z2⟩ := z
          have hP6 := kP_sr hk c1 hP3 c2
          have hI6 := kInv_up sr_blk (mv_sr c1) hI3 (kP_kI hP6)
          have hf6 := kFR_tr hf3 (kFR_blk sr_blk (mv_sr c1))
          cases z1 with
          | true =>
            have c3 : r6 = 1 := c3
            subst c3
            try dsimp only at hw
            refine gi_if_eq hC 49 dX3_classes_43 (by decide) (fun h7 => ?_) (fun h7 => ?_)
            · exact absurd h7 (by decide)
            ·
              refine gi_iinc_3 hC dX3_classes_46 (nI_1 c) (by decide) ?_
              refine gi_iinc_4 hC dX3_classes_49 (nI_1 v) (by decide) ?_
              refine gi_goto hC 21 dX3_classes_52 (by decide) ?_
              exact ih (v + 1) (c + 1) z2 σ6 (by omega) hf6 hI6 hP6 hw
          | false =>
            have c3 : r6 = 0 := c3
            subst c3
            try dsimp only at hw
            refine gi_if_eq hC 49 dX3_classes_43 (by decide) (fun h7 => ?_) (fun h7 => ?_)
            ·
              refine gi_iinc_4 hC dX3_classes_49 (nI_1 v) (by decide) ?_
              refine gi_goto hC 21 dX3_classes_52 (by decide) ?_
              exact ih (v + 1) c z2 σ6 (by omega) hf6 hI6 hP6 hw
            · exact absurd rfl h7
    refine gi_astn_2 hC dX3_classes_15 (by decide) ?_
    refine gi_const hC (v := 0) dX3_classes_16 (by decide) ?_
    refine gi_istn_3 hC dX3_classes_17 (by decide) ?_
    refine gi_const hC (v := 0) dX3_classes_18 (by decide) ?_
    refine gi_ist_4 hC dX3_classes_19 (by decide) ?_
    exact L n 0 0 fol σ2 (by omega) hfr hI2 hP hZ
  ·
    have hn : ¬ ∃ j, j < 7 ∧ k = nI j := by
      rcases h1 with ⟨z, -⟩ | ⟨-, z⟩
      · rw [z] at h2; exact absurd h2 (by decide)
      · exact z
    refine gi_bipush hC (v := -2) dX3_classes_7 (by decide) ?_
    exact hR _ _ _ _ rfl ⟨kFR_rf, hI, Or.inl ⟨rfl, hn⟩⟩ dX3_classes_9
set_option maxHeartbeats 4000000 in
set_option maxRecDepth 100000 in
theorem c_X3_crossing (l : Launch) (E : gm_E) (σ : gm_S) (n : Nat) (ps : Nat → Bool) (U V : Nat → Nat) (hI : kInv σ n ps U V) (k : Int32) : gm_MI l E yX3_crossing (.code yX3_crossing cX3_crossing 5 (some .int) :: gw_T) { frames := 5, cells := 0, slots := 0, locals := 122 } [.ref (E.2.2 0), .int k] σ (fun r σ2 => kFR σ σ2 ∧ kInv σ2 n ps U V ∧ ((r = -2 ∧ ¬ ∃ j, j < 7 ∧ k = nI j) ∨ ∃ kk, kk < 7 ∧ k = nI kk ∧ ∃ q sz b, pkd kk U V ps q sz b ∧ ∃ fol, r = nI (cr_lp kk U V ps q 24 0 0 fol).1)) := by
  refine gm_enterI RX3 (by decide +kernel) rfl rfl (Nat.le_of_ble_eq_true rfl) (gm_c1_ok rfl) ?_
  intro X hC hR
  show gm_G X E 5 0 [some (.ref (E.2.2 0)), some (.int k), none, none, none] [] σ
  obtain ⟨g1, g2, g3, g4, g5, g6, g7⟩ := id hI.1
  refine gi_ildn hC dX3_crossing_0 rfl ?_
  refine gk_SI (n := 1) hC (fun l => c_X3_isForestCount l E σ k) (gw_S gw_183 gw_184 gw_23 gw_185) rfl ⟨rfl, rfl⟩ rfl (by decide +kernel) ⟨by decide, by decide⟩ (Nat.le_of_ble_eq_true rfl) dX3_crossing_1 (fun r σ1 h1 => ?_)
  obtain ⟨h1, rfl⟩ := h1
  refine gi_if_ne hC 10 dX3_crossing_4 (by decide) (fun h2 => ?_) (fun h2 => ?_)
  ·
    obtain ⟨kk, hk, rfl⟩ : ∃ j, j < 7 ∧ k = nI j := by
      rcases h1 with ⟨-, z⟩ | ⟨z, -⟩
      · exact z
      · exact absurd z h2
    refine gi_aldn hC dX3_crossing_10 rfl ?_
    refine gi_ildn hC dX3_crossing_11 rfl ?_
    refine gk_VR (n := 1) hC (fun l => c_X3_packed l E σ1 n ps U V hI kk hk) (gm_o3 E) rfl (gw_V gw_186 gw_188 gw_1 gw_23 gw_189) rfl ⟨rfl, rfl⟩ rfl (by decide +kernel) ⟨by decide, by decide⟩ (Nat.le_of_ble_eq_true rfl) dX3_crossing_12 (fun σ2 h9 => ?_)
    obtain ⟨h9f, q, sz, fol, hP⟩ := h9
    have hI2 := kInv_up bl_blk h9f hI (kP_kI hP)
    have hfr := kFR_blk bl_blk h9f
    obtain ⟨Z, hZ⟩ : ∃ Z, Z = cr_lp kk U V ps q 24 0 0 fol := ⟨_, rfl⟩
    have L : ∀ m e c fo (σ3 : gm_S), e + m = 24 → kFR σ1 σ3 → kInv σ3 n ps U V → kP σ3 U V ps kk q sz fo → Z = cr_lp kk U V ps q m e c fo → gm_G X E 5 21 [some (.ref (E.2.2 0)), some (.int (nI kk)), some (.ref (E.2.2 (gm_P kk))), some (.int (nI c)), some (.int (nI e))] [] σ3 := by
      intro m
      induction m with
      | zero =>
        intro e c fo σ3 hv hf3 hI3 hP3 hw
        have hv : e = 24 := by omega
        subst hv
        rw [cr_lp] at hw
        refine gi_ild hC dX3_crossing_21 rfl ?_
        refine gi_bipush hC (v := 24) dX3_crossing_23 (by decide) ?_
        refine gi_icmp_ge hC 80 dX3_crossing_25 (by decide) (fun h5 => ?_) (fun h5 => ?_)
        ·
          refine gi_ildn hC dX3_crossing_80 rfl ?_
          exact hR _ _ _ _ rfl ⟨hf3, hI3, Or.inr ⟨kk, hk, rfl, q, sz, _, hP.2.2.2.2.2.2, fol, by rw [← hZ, hw]⟩⟩ dX3_crossing_81
        · exact absurd (Int32.le_refl _) h5
      | succ m ih =>
        intro e c fo σ3 hv hf3 hI3 hP3 hw
        obtain ⟨k1, k2, k3, k4, k5, k6, k7⟩ := id hI3.1
        rw [cr_lp] at hw
        obtain ⟨l1, l2, l3, l4⟩ := k6 e (by omega)
        refine gi_ild hC dX3_crossing_21 rfl ?_
        refine gi_bipush hC (v := 24) dX3_crossing_23 (by decide) ?_
        refine gi_icmp_ge hC 80 dX3_crossing_25 (by decide) (fun h5 => ?_) (fun h5 => ?_)
        · exact absurd h5 (nI_ge (a := e) (b := 24) (by omega) (by omega))
        ·
          refine gi_aldn hC dX3_crossing_28 rfl ?_
          refine gf_K_graph hC gw_129 dX3_crossing_29 ?_
          refine gi_ild hC dX3_crossing_32 rfl ?_
          refine gk_VI (n := 1) hC (fun l => c_X0_hasEdge l E σ3 (nI e)) (gm_o0 E) rfl (gw_V gw_178 gw_167 gw_168 gw_24 gw_169) rfl ⟨rfl, rfl⟩ rfl (by decide +kernel) ⟨by decide, by decide⟩ (Nat.le_of_ble_eq_true rfl) dX3_crossing_34 (fun r6 σ6 h6 => ?_)
          obtain ⟨h6, rfl⟩ := h6
          rw [gE_has_nI (by omega), k4 e (by omega)] at h6
          refine gi_if_eq hC 74 dX3_crossing_37 (by decide) (fun h7 => ?_) (fun h7 => ?_)
          ·
            have hpe : ¬ ps e = true := by
              rcases h6 with ⟨z, -⟩ | ⟨-, z⟩
              · rw [z] at h7; exact absurd h7 (by decide)
              · exact z
            rw [if_neg hpe] at hw
            refine gi_iinc_4 hC dX3_crossing_74 (nI_1 e) (by decide) ?_
            refine gi_goto hC 21 dX3_crossing_77 (by decide) ?_
            exact ih (e + 1) c fo σ6 (by omega) hf3 hI3 hP3 hw
          ·
            have hpe : ps e = true := by
              rcases h6 with ⟨-, z⟩ | ⟨z, -⟩
              · exact z
              · exact absurd z h7
            rw [if_pos hpe] at hw
            refine gi_aldn hC dX3_crossing_40 rfl ?_
            refine gi_aldn hC dX3_crossing_41 rfl ?_
            refine gf_K_graph hC gw_129 dX3_crossing_42 ?_
            refine gi_aldn hC dX3_crossing_45 rfl ?_
            refine gf_K_graph hC gw_129 dX3_crossing_46 ?_
            refine gf_G_lesser hC gw_47 dX3_crossing_49 ?_
            refine gi_ild hC dX3_crossing_52 rfl ?_
            refine gi_iald hC (gm_i2 E) (j := e) (by omega) rfl (by first | decide | omega) dX3_crossing_54 ?_
            refine gi_aldn hC dX3_crossing_55 rfl ?_
            refine gf_K_graph hC gw_129 dX3_crossing_56 ?_
            refine gf_G_greater hC gw_50 dX3_crossing_59 ?_
            refine gi_ild hC dX3_crossing_62 rfl ?_
            refine gi_iald hC (gm_i3 E) (j := e) (by omega) rfl (by first | decide | omega) dX3_crossing_64 ?_
            rw [l1, l2]
            refine gk_VI (n := 3) hC (fun l => c_X1_findRoom l E hk σ6 U V k6 ps k4 q hP3.2.2.2.2.1 (fun _ => false) (kfx hP3) fo hP3.2.1 (U e) (V e) l3 l4) (gm_o1 E hk) rfl (gw_V gw_271 gw_204 gw_205 gw_25 gw_206) rfl ⟨rfl, rfl⟩ rfl (by decide +kernel) ⟨by decide, by decide⟩ (Nat.le_of_ble_eq_true rfl) dX3_crossing_65 (fun r8 σ8 h8 => ?_)
            obtain ⟨c1, c2⟩ := h8
            generalize fnd kk U V ps q (fun _ => false) (U e) (V e) fo = z at hw c2
            obtain ⟨z1, z2⟩ := z
            have hP8 := kP_sr hk c1 hP3 c2.1.2.2.2.2
            have hI8 := kInv_up sr_blk (mv_sr c1) hI3 (kP_kI hP8)
            have hf8 := kFR_tr hf3 (kFR_blk sr_blk (mv_sr c1))
            cases z1 with
            | some w =>
              obtain ⟨lm, t⟩ := w
              obtain ⟨c3, rfl, -⟩ := c2
              try dsimp only at hw
              refine gi_if_eq hC 74 dX3_crossing_68 (by decide) (fun h9 => ?_) (fun h9 => ?_)
              · exact absurd h9 (by decide)
              ·
                refine gi_iinc_3 hC dX3_crossing_71 (nI_1 c) (by decide) ?_
                refine gi_iinc_4 hC dX3_crossing_74 (nI_1 e) (by decide) ?_
                refine gi_goto hC 21 dX3_crossing_77 (by decide) ?_
                exact ih (e + 1) (c + 1) _ σ8 (by omega) hf8 hI8 hP8 hw
            | none =>
              obtain ⟨c3, c4⟩ := c2
              have c4 : r8 = 0 := c4
              subst c4
              try dsimp only at hw
              refine gi_if_eq hC 74 dX3_crossing_68 (by decide) (fun h9 => ?_) (fun h9 => ?_)
              ·
                refine gi_iinc_4 hC dX3_crossing_74 (nI_1 e) (by decide) ?_
                refine gi_goto hC 21 dX3_crossing_77 (by decide) ?_
                exact ih (e + 1) c _ σ8 (by omega) hf8 hI8 hP8 hw
              · exact absurd rfl h9
    refine gi_astn_2 hC dX3_crossing_15 (by decide) ?_
    refine gi_const hC (v := 0) dX3_crossing_16 (by decide) ?_
    refine gi_istn_3 hC dX3_crossing_17 (by decide) ?_
    refine gi_const hC (v := 0) dX3_crossing_18 (by decide) ?_
    refine gi_ist_4 hC dX3_crossing_19 (by decide) ?_
    exact L 24 0 0 fol σ2 rfl hfr hI2 hP hZ
  ·
    have hn : ¬ ∃ j, j < 7 ∧ k = nI j := by
      rcases h1 with ⟨z, -⟩ | ⟨-, z⟩
      · rw [z] at h2; exact absurd h2 (by decide)
      · exact z
    refine gi_bipush hC (v := -2) dX3_crossing_7 (by decide) ?_
    exact hR _ _ _ _ rfl ⟨kFR_rf, hI, Or.inl ⟨rfl, hn⟩⟩ dX3_crossing_9
set_option maxHeartbeats 4000000 in
set_option maxRecDepth 100000 in
theorem c_X3_arboricity (l : Launch) (E : gm_E) (σ : gm_S) (n : Nat) (ps : Nat → Bool) (U V : Nat → Nat) (hI : kInv σ n ps U V)  : gm_MI l E yX3_arboricity (.code yX3_arboricity cX3_arboricity 3 (some .int) :: gw_T) { frames := 5, cells := 0, slots := 0, locals := 122 } [.ref (E.2.2 0)] σ (fun r σ2 => kFR σ σ2 ∧ kInv σ2 n ps U V ∧ σ2.1 1 2 = σ.1 1 2 ∧ arbP U V ps (σ.1 1 2) r) := by
  refine gm_enterI RX3 (by decide +kernel) rfl rfl (Nat.le_of_ble_eq_true rfl) (gm_c1_ok rfl) ?_
  intro X hC hR
  show gm_G X E 3 0 [some (.ref (E.2.2 0)), none, none] [] σ
  have L : ∀ m kk (σ3 : gm_S), kk + m = 7 → kFR σ σ3 → kInv σ3 n ps U V → σ3.1 1 2 = σ.1 1 2 → (∀ k2, k2 < kk → ∃ q sz b, pkd k2 U V ps q sz b ∧ nI sz ≠ jbc (σ.1 1 2)) → gm_G X E 3 10 [some (.ref (E.2.2 0)), some (.int (jbc (σ.1 1 2))), some (.int (nI kk))] [] σ3 := by
    intro m
    induction m with
    | zero =>
      intro kk σ3 hv hf3 hI3 he3 hw
      have hv : kk = 7 := by omega
      subst hv
      refine gi_ildn hC dX3_arboricity_10 rfl ?_
      refine gi_bipush hC (v := 6) dX3_arboricity_11 (by decide) ?_
      refine gi_icmp_gt hC 36 dX3_arboricity_13 (by decide) (fun h5 => ?_) (fun h5 => ?_)
      ·
        refine gi_const hC (v := -1) dX3_arboricity_36 (by decide) ?_
        exact hR _ _ _ _ rfl ⟨hf3, hI3, he3, Or.inr ⟨rfl, hw⟩⟩ dX3_arboricity_37
      · exact absurd (by decide) h5
    | succ m ih =>
      intro kk σ3 hv hf3 hI hv3 hw
      have hk : kk < 7 := by omega
      refine gi_ildn hC dX3_arboricity_10 rfl ?_
      refine gi_bipush hC (v := 6) dX3_arboricity_11 (by decide) ?_
      refine gi_icmp_gt hC 36 dX3_arboricity_13 (by decide) (fun h5 => ?_) (fun h5 => ?_)
      · exact absurd h5 (nI_nlt (a := 6) (b := kk) (by omega) (by omega))
      ·
        refine gi_aldn hC dX3_arboricity_16 rfl ?_
        refine gi_ildn hC dX3_arboricity_17 rfl ?_
        refine gk_VR (n := 1) hC (fun l => c_X3_packed l E σ3 n ps U V hI kk hk) (gm_o3 E) rfl (gw_V gw_186 gw_188 gw_1 gw_23 gw_189) rfl ⟨rfl, rfl⟩ rfl (by decide +kernel) ⟨by decide, by decide⟩ (Nat.le_of_ble_eq_true rfl) dX3_arboricity_18 (fun σ2 h9 => ?_)
        obtain ⟨h9f, q, sz, fol, hP⟩ := h9
        have hI2 := kInv_up bl_blk h9f hI (kP_kI hP)
        have hfr := kFR_blk bl_blk h9f
        have hf2 := kFR_tr hf3 hfr
        have he2 : σ2.1 1 2 = σ.1 1 2 := (kNF bl_blk h9f 2).trans hv3
        refine gf_P_size hC hk gw_92 dX3_arboricity_21 ?_
        rw [hP.2.2.2.2.2.1]
        refine gi_ildn hC dX3_arboricity_24 rfl ?_
        refine gi_icmp_ne hC 30 dX3_arboricity_25 (by decide) (fun h6 => ?_) (fun h6 => ?_)
        ·
          refine gi_iinc_2 hC dX3_arboricity_30 (nI_1 kk) (by decide) ?_
          refine gi_goto hC 10 dX3_arboricity_33 (by decide) ?_
          exact ih (kk + 1) σ2 (by omega) hf2 hI2 he2 (fun k2 hk2 => by
            by_cases e : k2 = kk
            · subst e; exact ⟨q, sz, _, hP.2.2.2.2.2.2, h6⟩
            · exact hw k2 (by omega))
        ·
          refine gi_ildn hC dX3_arboricity_28 rfl ?_
          exact hR _ _ _ _ rfl ⟨hf2, hI2, he2, Or.inl ⟨kk, hk, rfl, ⟨q, sz, _, hP.2.2.2.2.2.2, h6⟩, hw⟩⟩ dX3_arboricity_29
  refine gi_aldn hC dX3_arboricity_0 rfl ?_
  refine gf_K_graph hC gw_129 dX3_arboricity_1 ?_
  refine gk_VI (n := 0) hC (fun l => c_X0_edgeCount l E σ) (gm_o0 E) rfl (gw_V gw_140 gw_141 gw_142 gw_24 gw_143) rfl ⟨rfl, rfl⟩ rfl (by decide +kernel) ⟨by decide, by decide⟩ (Nat.le_of_ble_eq_true rfl) dX3_arboricity_4 (fun r1 σ1 h1 => ?_)
  obtain ⟨rfl, rfl⟩ := h1
  refine gi_istn_1 hC dX3_arboricity_7 (by decide) ?_
  refine gi_const hC (v := 0) dX3_arboricity_8 (by decide) ?_
  refine gi_istn_2 hC dX3_arboricity_9 (by decide) ?_
  exact L 7 0 σ1 rfl kFR_rf hI rfl (fun k2 hk2 => absurd hk2 (Nat.not_lt_zero k2))
set_option maxHeartbeats 4000000 in
set_option maxRecDepth 100000 in
theorem c_X3_dense (l : Launch) (E : gm_E) (σ : gm_S) (n : Nat) (ps : Nat → Bool) (U V : Nat → Nat) (hI : kInv σ n ps U V)  : gm_MI l E yX3_dense (.code yX3_dense cX3_dense 4 (some .int) :: gw_T) { frames := 6, cells := 0, slots := 0, locals := 144 } [.ref (E.2.2 0)] σ (fun r σ2 => kFR σ σ2 ∧ kInv σ2 n ps U V ∧ ((r = -1 ∧ arbP U V ps (σ.1 1 2) (-1)) ∨ (r = 0 ∧ arbP U V ps (σ.1 1 2) (nI 0)) ∨ ∃ kk, kk + 1 < 7 ∧ arbP U V ps (σ.1 1 2) (nI (kk + 1)) ∧ ∃ q sz b, pkd kk U V ps q sz b ∧ ((r = 0 ∧ ∀ e, e < 24 → ¬ (ps e = true ∧ q.1 e = none)) ∨ ∃ e fol, e < 24 ∧ ps e = true ∧ q.1 e = none ∧ (∀ d, d < e → ¬ (ps d = true ∧ q.1 d = none)) ∧ bm r (vs_lp U V (rsn kk U V ps q e fol) 24 0 (fun _ => false))))) := by
  refine gm_enterI RX3 (by decide +kernel) rfl rfl (Nat.le_of_ble_eq_true rfl) (gm_c1_ok rfl) ?_
  intro X hC hR
  show gm_G X E 4 0 [some (.ref (E.2.2 0)), none, none, none] [] σ
  refine gi_aldn hC dX3_dense_0 rfl ?_
  refine gk_VI (n := 0) hC (fun l => c_X3_arboricity l E σ n ps U V hI) (gm_o3 E) rfl (gw_V gw_292 gw_285 gw_286 gw_23 gw_287) rfl ⟨rfl, rfl⟩ rfl (by decide +kernel) ⟨by decide, by decide⟩ (Nat.le_of_ble_eq_true rfl) dX3_dense_1 (fun r1 σ1 h1 => ?_)
  obtain ⟨a1, hI1, a2, a3⟩ := h1
  refine gi_istn_1 hC dX3_dense_4 (by decide) ?_
  refine gi_ildn hC dX3_dense_5 rfl ?_
  refine gi_const hC (v := -1) dX3_dense_6 (by decide) ?_
  refine gi_icmp_ne hC 12 dX3_dense_7 (by decide) (fun h2 => ?_) (fun h2 => ?_)
  ·
    obtain ⟨kz, hkz, rfl, -⟩ : ∃ kk, kk < 7 ∧ r1 = nI kk ∧ True := by
      rcases id a3 with ⟨kk, z1, z2, -⟩ | ⟨z, -⟩
      · exact ⟨kk, z1, z2, trivial⟩
      · exact absurd z h2
    refine gi_ildn hC dX3_dense_12 rfl ?_
    refine gi_if_ne hC 18 dX3_dense_13 (by decide) (fun h3 => ?_) (fun h3 => ?_)
    ·
      obtain ⟨kk, rfl⟩ : ∃ kk, kz = kk + 1 := ⟨kz - 1, by
        have : kz ≠ 0 := fun e => h3 (by rw [e]; rfl)
        omega⟩
      have hk : kk < 7 := by omega
      obtain ⟨k1, k2, k3, k4, k5, k6, k7⟩ := id hI1.1
      refine gi_aldn hC dX3_dense_18 rfl ?_
      refine gi_ildn hC dX3_dense_19 rfl ?_
      refine gi_const hC (v := 1) dX3_dense_20 (by decide) ?_
      refine gi_isub hC dX3_dense_21 ?_
      rw [nI_pred]
      refine gk_VR (n := 1) hC (fun l => c_X3_packed l E σ1 n ps U V hI1 kk hk) (gm_o3 E) rfl (gw_V gw_186 gw_188 gw_1 gw_23 gw_189) rfl ⟨rfl, rfl⟩ rfl (by decide +kernel) ⟨by decide, by decide⟩ (Nat.le_of_ble_eq_true rfl) dX3_dense_22 (fun σ2 h9 => ?_)
      obtain ⟨h9f, q, sz, fol, hP⟩ := h9
      have hI2 := kInv_up bl_blk h9f hI1 (kP_kI hP)
      have hfr := kFR_tr a1 (kFR_blk bl_blk h9f)
      obtain ⟨k1, k2, k3, k4, k5, k6, k7⟩ := id hI2.1
      have L : ∀ m e, e + m = 24 → (∀ d, d < e → ¬ (ps d = true ∧ q.1 d = none)) → gm_G X E 4 28 [some (.ref (E.2.2 0)), some (.int (nI (kk + 1))), some (.ref (E.2.2 (gm_P kk))), some (.int (nI e))] [] σ2 := by
        intro m
        induction m with
        | zero =>
          intro e hv hd
          have hv : e = 24 := by omega
          subst hv
          refine gi_ildn hC dX3_dense_28 rfl ?_
          refine gi_bipush hC (v := 24) dX3_dense_29 (by decide) ?_
          refine gi_icmp_ge hC 78 dX3_dense_31 (by decide) (fun h5 => ?_) (fun h5 => ?_)
          ·
            refine gi_const hC (v := 0) dX3_dense_78 (by decide) ?_
            exact hR _ _ _ _ rfl ⟨hfr, hI2, Or.inr (Or.inr ⟨kk, hkz, a3, q, sz, _, hP.2.2.2.2.2.2, Or.inl ⟨rfl, hd⟩⟩)⟩ dX3_dense_79
          · exact absurd (Int32.le_refl _) h5
        | succ m ih =>
          intro e hv hd
          obtain ⟨p1, p2⟩ := hP.2.2.2.2.1.1 e (by omega)
          have NX : ¬ (ps e = true ∧ q.1 e = none) → gm_G X E 4 72 [some (.ref (E.2.2 0)), some (.int (nI (kk + 1))), some (.ref (E.2.2 (gm_P kk))), some (.int (nI e))] [] σ2 := by
            intro hx
            refine gi_iinc_3 hC dX3_dense_72 (nI_1 e) (by decide) ?_
            refine gi_goto hC 28 dX3_dense_75 (by decide) ?_
            exact ih (e + 1) (by omega) (fun d hd2 => by
              by_cases z : d = e
              · subst z; exact hx
              · exact hd d (by omega))
          refine gi_ildn hC dX3_dense_28 rfl ?_
          refine gi_bipush hC (v := 24) dX3_dense_29 (by decide) ?_
          refine gi_icmp_ge hC 78 dX3_dense_31 (by decide) (fun h5 => ?_) (fun h5 => ?_)
          · exact absurd h5 (nI_ge (a := e) (b := 24) (by omega) (by omega))
          ·
            refine gi_aldn hC dX3_dense_34 rfl ?_
            refine gf_K_graph hC gw_129 dX3_dense_35 ?_
            refine gi_ildn hC dX3_dense_38 rfl ?_
            refine gk_VI (n := 1) hC (fun l => c_X0_hasEdge l E σ2 (nI e)) (gm_o0 E) rfl (gw_V gw_178 gw_167 gw_168 gw_24 gw_169) rfl ⟨rfl, rfl⟩ rfl (by decide +kernel) ⟨by decide, by decide⟩ (Nat.le_of_ble_eq_true rfl) dX3_dense_39 (fun r6 σ6 h6 => ?_)
            obtain ⟨h6, rfl⟩ := h6
            rw [gE_has_nI (by omega), k4 e (by omega)] at h6
            refine gi_if_eq hC 72 dX3_dense_42 (by decide) (fun h7 => ?_) (fun h7 => ?_)
            ·
              exact NX (fun z => by
                rcases h6 with ⟨y, -⟩ | ⟨-, y⟩
                · rw [y] at h7; exact absurd h7 (by decide)
                · exact y z.1)
            ·
              have hpe : ps e = true := by
                rcases h6 with ⟨-, z⟩ | ⟨z, -⟩
                · exact z
                · exact absurd z h7
              refine gi_aldn hC dX3_dense_45 rfl ?_
              refine gf_P_place hC hk gw_90 dX3_dense_46 ?_
              refine gi_ildn hC dX3_dense_49 rfl ?_
              refine gi_iald hC (gm_iR E hk 1 (by decide) (by decide)) (j := e) (by omega) rfl (by first | decide | omega) dX3_dense_50 ?_
              rw [p1]
              refine gi_const hC (v := -1) dX3_dense_51 (by decide) ?_
              refine gi_icmp_ne hC 72 dX3_dense_52 (by decide) (fun h8 => ?_) (fun h8 => ?_)
              · exact NX (fun z => h8 (by rw [z.2]; rfl))
              ·
                have hq := (oI_m1 (oI_in p2 (by omega))).mp h8
                refine gi_aldn hC dX3_dense_55 rfl ?_
                refine gf_K_graph hC gw_129 dX3_dense_56 ?_
                refine gi_aldn hC dX3_dense_59 rfl ?_
                refine gi_aldn hC dX3_dense_60 rfl ?_
                refine gf_K_graph hC gw_129 dX3_dense_61 ?_
                refine gi_ildn hC dX3_dense_64 rfl ?_
                refine gk_VI (n := 2) hC (fun l => c_X1_reason l E hk σ6 U V k6 ps k4 q hP.2.2.2.2.1 (fun _ => false) (kfx hP) fol hP.2.1 e (by omega)) (gm_o1 E hk) rfl (gw_V gw_262 gw_263 gw_264 gw_25 gw_265) rfl ⟨rfl, rfl⟩ rfl (by decide +kernel) ⟨by decide, by decide⟩ (Nat.le_of_ble_eq_true rfl) dX3_dense_65 (fun m2 σ7 h9 => ?_)
                obtain ⟨c1, c2, c3⟩ := h9
                have hP4 := kP_sr hk c1 hP c2.2.2.2.2
                have hI4 := kInv_up sr_blk (mv_sr c1) hI2 (kP_kI hP4)
                have hfr4 := kFR_tr hfr (kFR_blk sr_blk (mv_sr c1))
                refine gk_VI (n := 1) hC (fun l => c_X0_verticesOf l E σ7 U V (gL_sr c1 k6) m2 (rsn kk U V ps q e fol) c3) (gm_o0 E) rfl (gw_V gw_293 gw_294 gw_295 gw_24 gw_296) rfl ⟨rfl, rfl⟩ rfl (by decide +kernel) ⟨by decide, by decide⟩ (Nat.le_of_ble_eq_true rfl) dX3_dense_68 (fun r9 σ9 h9 => ?_)
                obtain ⟨rfl, h9⟩ := h9
                exact hR _ _ _ _ rfl ⟨hfr4, hI4, Or.inr (Or.inr ⟨kk, hkz, a3, q, sz, _, hP.2.2.2.2.2.2, Or.inr ⟨e, fol, by omega, hpe, hq, hd, h9⟩⟩)⟩ dX3_dense_71
      refine gi_astn_2 hC dX3_dense_25 (by decide) ?_
      refine gi_const hC (v := 0) dX3_dense_26 (by decide) ?_
      refine gi_istn_3 hC dX3_dense_27 (by decide) ?_
      exact L 24 0 rfl (fun d hd => absurd hd (Nat.not_lt_zero d))
    ·
      have hz : kz = 0 := (nI_eq (b := 0) (by omega) (by omega)).mp h3
      subst hz
      refine gi_const hC (v := 0) dX3_dense_16 (by decide) ?_
      exact hR _ _ _ _ rfl ⟨a1, hI1, Or.inr (Or.inl ⟨rfl, a3⟩)⟩ dX3_dense_17
  ·
    subst h2
    refine gi_const hC (v := -1) dX3_dense_10 (by decide) ?_
    exact hR _ _ _ _ rfl ⟨a1, hI1, Or.inl ⟨rfl, a3⟩⟩ dX3_dense_11
set_option maxHeartbeats 4000000 in
set_option maxRecDepth 100000 in
theorem c_X3_spanning (l : Launch) (E : gm_E) (σ : gm_S) (n : Nat) (ps : Nat → Bool) (U V : Nat → Nat) (hI : kInv σ n ps U V)  : gm_MI l E yX3_spanning (.code yX3_spanning cX3_spanning 2 (some .int) :: gw_T) { frames := 5, cells := 0, slots := 0, locals := 122 } [.ref (E.2.2 0)] σ (fun r σ2 => kFR σ σ2 ∧ kInv σ2 n ps U V ∧ ((∃ kk, 1 ≤ kk ∧ kk < 7 ∧ r = nI kk ∧ (∃ q sz b, pkd kk U V ps q sz b ∧ nI sz = nI kk * (nI n - 1)) ∧ ∀ k2, kk < k2 → k2 < 7 → ∃ q sz b, pkd k2 U V ps q sz b ∧ nI sz ≠ nI k2 * (nI n - 1)) ∨ (r = 0 ∧ ∀ k2, 1 ≤ k2 → k2 < 7 → ∃ q sz b, pkd k2 U V ps q sz b ∧ nI sz ≠ nI k2 * (nI n - 1)))) := by
  refine gm_enterI RX3 (by decide +kernel) rfl rfl (Nat.le_of_ble_eq_true rfl) (gm_c1_ok rfl) ?_
  intro X hC hR
  show gm_G X E 2 0 [some (.ref (E.2.2 0)), none] [] σ
  have L : ∀ kk (σ3 : gm_S), kk < 7 → kFR σ σ3 → kInv σ3 n ps U V → (∀ k2, kk < k2 → k2 < 7 → ∃ q sz b, pkd k2 U V ps q sz b ∧ nI sz ≠ nI k2 * (nI n - 1)) → gm_G X E 2 3 [some (.ref (E.2.2 0)), some (.int (nI kk))] [] σ3 := by
    intro kk
    induction kk with
    | zero =>
      intro σ3 hv hf3 hI3 hw
      refine gi_ildn hC dX3_spanning_3 rfl ?_
      refine gi_if_le hC 37 dX3_spanning_4 (by decide) (fun h5 => ?_) (fun h5 => ?_)
      ·
        refine gi_const hC (v := 0) dX3_spanning_37 (by decide) ?_
        exact hR _ _ _ _ rfl ⟨hf3, hI3, Or.inr ⟨rfl, fun k2 z1 z2 => hw k2 z1 z2⟩⟩ dX3_spanning_38
      · exact absurd (Int32.le_refl _) h5
    | succ kk ih =>
      intro σ3 hk hf3 hI hw
      obtain ⟨kk2, hkk⟩ : ∃ z, z = kk + 1 := ⟨_, rfl⟩
      refine gi_ildn hC dX3_spanning_3 rfl ?_
      refine gi_if_le hC 37 dX3_spanning_4 (by decide) (fun h5 => ?_) (fun h5 => ?_)
      · exact absurd h5 (nI_nle (n := kk + 1) (by omega) (by omega))
      ·
        refine gi_aldn hC dX3_spanning_7 rfl ?_
        refine gi_ildn hC dX3_spanning_8 rfl ?_
        refine gk_VR (n := 1) hC (fun l => c_X3_packed l E σ3 n ps U V hI (kk + 1) hk) (gm_o3 E) rfl (gw_V gw_186 gw_188 gw_1 gw_23 gw_189) rfl ⟨rfl, rfl⟩ rfl (by decide +kernel) ⟨by decide, by decide⟩ (Nat.le_of_ble_eq_true rfl) dX3_spanning_9 (fun σ2 h9 => ?_)
        obtain ⟨h9f, q, sz, fol, hP⟩ := h9
        have hI2 := kInv_up bl_blk h9f hI (kP_kI hP)
        have hfr := kFR_tr hf3 (kFR_blk bl_blk h9f)
        obtain ⟨k1, k2, k3, k4, k5, k6, k7⟩ := id hI2.1
        refine gf_P_size hC hk gw_92 dX3_spanning_12 ?_
        rw [hP.2.2.2.2.2.1]
        refine gi_ildn hC dX3_spanning_15 rfl ?_
        refine gi_aldn hC dX3_spanning_16 rfl ?_
        refine gf_K_graph hC gw_129 dX3_spanning_17 ?_
        refine gf_G_vertices hC gw_54 dX3_spanning_20 ?_
        rw [k3]
        refine gi_const hC (v := 1) dX3_spanning_23 (by decide) ?_
        refine gi_isub hC dX3_spanning_24 ?_
        refine gi_imul hC dX3_spanning_25 ?_
        refine gi_icmp_ne hC 31 dX3_spanning_26 (by decide) (fun h6 => ?_) (fun h6 => ?_)
        ·
          refine gi_iinc_1 hC dX3_spanning_31 (pk_m1 kk) (by decide) ?_
          refine gi_goto hC 3 dX3_spanning_34 (by decide) ?_
          exact ih σ2 (by omega) hfr hI2 (fun k3 z1 z2 => by
            by_cases e : k3 = kk + 1
            · subst e; exact ⟨q, sz, _, hP.2.2.2.2.2.2, h6⟩
            · exact hw k3 (by omega) z2)
        ·
          refine gi_ildn hC dX3_spanning_29 rfl ?_
          exact hR _ _ _ _ rfl ⟨hfr, hI2, Or.inl ⟨kk + 1, by omega, hk, rfl, ⟨q, sz, _, hP.2.2.2.2.2.2, h6⟩, hw⟩⟩ dX3_spanning_30
  refine gi_bipush hC (v := 6) dX3_spanning_0 (by decide) ?_
  refine gi_istn_1 hC dX3_spanning_2 (by decide) ?_
  exact L 6 σ (by decide) kFR_rf hI (fun k2 z1 z2 => by omega)
set_option maxHeartbeats 4000000 in
set_option maxRecDepth 100000 in
theorem c_X3_told (l : Launch) (E : gm_E) (σ : gm_S) (n : Nat) (ps : Nat → Bool) (U V : Nat → Nat) (hI : kInv σ n ps U V) (a w : Int32) : gm_MI l E yX3_told (.code yX3_told cX3_told 3 (some .int) :: gw_T) { frames := 2, cells := 0, slots := 0, locals := 46 } [.ref (E.2.2 0), .int a, .int w] σ (fun r σ2 => kFR σ σ2 ∧ kInv σ2 n ps U V ∧ ((r = -2 ∧ ¬ ∃ j, j < 5 ∧ w = nI j) ∨ (w = nI 0 ∧ ((r = -1 ∧ ¬ ∃ e, e < 24 ∧ a = nI e ∧ ps e = true) ∨ ∃ e, e < 24 ∧ a = nI e ∧ ps e = true ∧ r = nI (U e))) ∨ (w = nI 1 ∧ ((r = -1 ∧ ¬ ∃ e, e < 24 ∧ a = nI e ∧ ps e = true) ∨ ∃ e, e < 24 ∧ a = nI e ∧ ps e = true ∧ r = nI (V e))) ∨ (w = nI 2 ∧ r = jbc (σ.1 1 2)) ∨ (w = nI 3 ∧ r = nI n) ∨ (w = nI 4 ∧ r = nI (am_lp U V ps (bt a) 24 0 0)))) := by
  refine gm_enterI RX3 (by decide +kernel) rfl rfl (Nat.le_of_ble_eq_true rfl) (gm_c1_ok rfl) ?_
  intro X hC hR
  show gm_G X E 3 0 [some (.ref (E.2.2 0)), some (.int a), some (.int w)] [] σ
  obtain ⟨g1, g2, g3, g4, g5, g6, g7⟩ := id hI.1
  refine gi_ildn hC dX3_told_0 rfl ?_
  by_cases hw : ∃ j, j < 5 ∧ w = nI j
  · obtain ⟨j, hj, rfl⟩ := hw
    rcases (show j = 0 ∨ j = 1 ∨ j = 2 ∨ j = 3 ∨ j = 4 by omega) with rfl | rfl | rfl | rfl | rfl
    ·
      refine gi_tsIn hC 36 dX3_told_1 (by decide) (by decide) rfl (by decide) ?_
      refine gi_aldn hC dX3_told_36 rfl ?_
      refine gf_K_graph hC gw_129 dX3_told_37 ?_
      refine gi_ildn hC dX3_told_40 rfl ?_
      refine gk_VI (n := 1) hC (fun l => c_X0_hasEdge l E σ a) (gm_o0 E) rfl (gw_V gw_178 gw_167 gw_168 gw_24 gw_169) rfl ⟨rfl, rfl⟩ rfl (by decide +kernel) ⟨by decide, by decide⟩ (Nat.le_of_ble_eq_true rfl) dX3_told_41 (fun r3 σ3 h3 => ?_)
      obtain ⟨h3, rfl⟩ := h3
      rw [gE_ex g4] at h3
      refine gi_if_eq hC 59 dX3_told_44 (by decide) (fun h4 => ?_) (fun h4 => ?_)
      ·
        have hna : ¬ ∃ j, j < 24 ∧ a = nI j ∧ ps j = true := by
          rcases h3 with ⟨z, -⟩ | ⟨-, z⟩
          · rw [z] at h4; exact absurd h4 (by decide)
          · exact z
        refine gi_const hC (v := -1) dX3_told_59 (by decide) ?_
        exact hR _ _ _ _ rfl ⟨kFR_rf, hI, Or.inr (Or.inl ⟨rfl, Or.inl ⟨rfl, hna⟩⟩)⟩ dX3_told_60
      ·
        obtain ⟨e, he, rfl, hpe⟩ : ∃ j, j < 24 ∧ a = nI j ∧ ps j = true := by
          rcases h3 with ⟨-, z⟩ | ⟨z, -⟩
          · exact z
          · exact absurd z h4
        obtain ⟨l1, l2, l3, l4⟩ := g6 e he
        refine gi_aldn hC dX3_told_47 rfl ?_
        refine gf_K_graph hC gw_129 dX3_told_48 ?_
        refine gf_G_lesser hC gw_47 dX3_told_51 ?_
        refine gi_ildn hC dX3_told_54 rfl ?_
        refine gi_iald hC (gm_i2 E) he rfl (by first | decide | omega) dX3_told_55 ?_
        rw [l1]
        refine gi_goto hC 60 dX3_told_56 (by decide) ?_
        exact hR _ _ _ _ rfl ⟨kFR_rf, hI, Or.inr (Or.inl ⟨rfl, Or.inr ⟨e, he, rfl, hpe, rfl⟩⟩)⟩ dX3_told_60
    ·
      refine gi_tsIn hC 61 dX3_told_1 (by decide) (by decide) rfl (by decide) ?_
      refine gi_aldn hC dX3_told_61 rfl ?_
      refine gf_K_graph hC gw_129 dX3_told_62 ?_
      refine gi_ildn hC dX3_told_65 rfl ?_
      refine gk_VI (n := 1) hC (fun l => c_X0_hasEdge l E σ a) (gm_o0 E) rfl (gw_V gw_178 gw_167 gw_168 gw_24 gw_169) rfl ⟨rfl, rfl⟩ rfl (by decide +kernel) ⟨by decide, by decide⟩ (Nat.le_of_ble_eq_true rfl) dX3_told_66 (fun r3 σ3 h3 => ?_)
      obtain ⟨h3, rfl⟩ := h3
      rw [gE_ex g4] at h3
      refine gi_if_eq hC 84 dX3_told_69 (by decide) (fun h4 => ?_) (fun h4 => ?_)
      ·
        have hna : ¬ ∃ j, j < 24 ∧ a = nI j ∧ ps j = true := by
          rcases h3 with ⟨z, -⟩ | ⟨-, z⟩
          · rw [z] at h4; exact absurd h4 (by decide)
          · exact z
        refine gi_const hC (v := -1) dX3_told_84 (by decide) ?_
        exact hR _ _ _ _ rfl ⟨kFR_rf, hI, Or.inr (Or.inr (Or.inl ⟨rfl, Or.inl ⟨rfl, hna⟩⟩))⟩ dX3_told_85
      ·
        obtain ⟨e, he, rfl, hpe⟩ : ∃ j, j < 24 ∧ a = nI j ∧ ps j = true := by
          rcases h3 with ⟨-, z⟩ | ⟨z, -⟩
          · exact z
          · exact absurd z h4
        obtain ⟨l1, l2, l3, l4⟩ := g6 e he
        refine gi_aldn hC dX3_told_72 rfl ?_
        refine gf_K_graph hC gw_129 dX3_told_73 ?_
        refine gf_G_greater hC gw_50 dX3_told_76 ?_
        refine gi_ildn hC dX3_told_79 rfl ?_
        refine gi_iald hC (gm_i3 E) he rfl (by first | decide | omega) dX3_told_80 ?_
        rw [l2]
        refine gi_goto hC 85 dX3_told_81 (by decide) ?_
        exact hR _ _ _ _ rfl ⟨kFR_rf, hI, Or.inr (Or.inr (Or.inl ⟨rfl, Or.inr ⟨e, he, rfl, hpe, rfl⟩⟩))⟩ dX3_told_85
    ·
      refine gi_tsIn hC 86 dX3_told_1 (by decide) (by decide) rfl (by decide) ?_
      refine gi_aldn hC dX3_told_86 rfl ?_
      refine gf_K_graph hC gw_129 dX3_told_87 ?_
      refine gk_VI (n := 0) hC (fun l => c_X0_edgeCount l E σ) (gm_o0 E) rfl (gw_V gw_140 gw_141 gw_142 gw_24 gw_143) rfl ⟨rfl, rfl⟩ rfl (by decide +kernel) ⟨by decide, by decide⟩ (Nat.le_of_ble_eq_true rfl) dX3_told_90 (fun r3 σ3 h3 => ?_)
      obtain ⟨rfl, rfl⟩ := h3
      exact hR _ _ _ _ rfl ⟨kFR_rf, hI, Or.inr (Or.inr (Or.inr (Or.inl ⟨rfl, rfl⟩)))⟩ dX3_told_93
    ·
      refine gi_tsIn hC 94 dX3_told_1 (by decide) (by decide) rfl (by decide) ?_
      refine gi_aldn hC dX3_told_94 rfl ?_
      refine gf_K_graph hC gw_129 dX3_told_95 ?_
      refine gf_G_vertices hC gw_54 dX3_told_98 ?_
      exact hR _ _ _ _ rfl ⟨kFR_rf, hI, Or.inr (Or.inr (Or.inr (Or.inr (Or.inl ⟨rfl, g3⟩))))⟩ dX3_told_101
    ·
      refine gi_tsIn hC 102 dX3_told_1 (by decide) (by decide) rfl (by decide) ?_
      refine gi_aldn hC dX3_told_102 rfl ?_
      refine gf_K_graph hC gw_129 dX3_told_103 ?_
      refine gi_ildn hC dX3_told_106 rfl ?_
      refine gk_VI (n := 1) hC (fun l => c_X0_edgesAmong l E σ U V g6 ps g4 a) (gm_o0 E) rfl (gw_V gw_305 gw_306 gw_307 gw_24 gw_308) rfl ⟨rfl, rfl⟩ rfl (by decide +kernel) ⟨by decide, by decide⟩ (Nat.le_of_ble_eq_true rfl) dX3_told_107 (fun r3 σ3 h3 => ?_)
      obtain ⟨rfl, rfl⟩ := h3
      exact hR _ _ _ _ rfl ⟨kFR_rf, hI, Or.inr (Or.inr (Or.inr (Or.inr (Or.inr ⟨rfl, rfl⟩))))⟩ dX3_told_110
  · refine gi_tsOut hC 111 dX3_told_1 ?_ (by decide) ?_
    · rcases (show w.toInt < 0 ∨ 0 ≤ w.toInt by omega) with z | z
      · exact Or.inl z
      · refine Or.inr ?_
        rcases (show 4 < w.toInt ∨ w.toInt ≤ 4 by omega) with y | y
        · exact y
        · exfalso
          have h0 : ¬ w < 0 := fun q => by
            rw [Int32.lt_iff_toInt_lt] at q
            have e0 : (0 : Int32).toInt = 0 := by decide
            omega
          obtain ⟨j, hj, rfl⟩ := nI_of h0
          rw [nI_toInt hj] at y
          exact hw ⟨j, by omega, rfl⟩
    ·
      refine gi_bipush hC (v := -2) dX3_told_111 (by decide) ?_
      exact hR _ _ _ _ rfl ⟨kFR_rf, hI, Or.inl ⟨rfl, hw⟩⟩ dX3_told_113
