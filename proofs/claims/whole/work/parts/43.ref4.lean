/-! THE REFERENCE: classes, crossing, arboricity, dense, spanning, told -/
set_option maxHeartbeats 4000000 in
set_option maxRecDepth 100000 in
theorem c_X4_classes (l : Launch) (E : gm_E) (σ : gm_S) (n : Nat) (ps : Nat → Bool) (U V : Nat → Nat) (hM : mG σ n ps U V) (k : Int32) : gm_MI l E yX4_classes (.code yX4_classes cX4_classes 6 (some .int) :: gw_T) { frames := 3, cells := 0, slots := 0, locals := 75 } [.ref (E.2.2 5), .int k] σ (fun r σ2 => hFR σ σ2 ∧ ((r = -2 ∧ ¬ ∃ j, j < 7 ∧ k = nI j) ∨ ∃ kk, kk < 7 ∧ k = nI kk ∧ r = nI (mcl_lp n U V (hdd n U V ps kk) kk n 0 0))) := by
  refine gm_enterI RX4 (by decide +kernel) rfl rfl (Nat.le_of_ble_eq_true rfl) (gm_c1_ok rfl) ?_
  intro X hC hR
  show gm_G X E 6 0 [some (.ref (E.2.2 5)), some (.int k), none, none, none, none] [] σ
  obtain ⟨g1, g2, g3, g4, g5, g6, g7⟩ := id hM
  refine gi_ildn hC dX4_classes_0 rfl ?_
  refine gk_SI (n := 1) hC (fun l => c_X4_isK l E σ k) (gw_S gw_382 gw_383 gw_28 gw_384) rfl ⟨rfl, rfl⟩ rfl (by decide +kernel) ⟨by decide, by decide⟩ (Nat.le_of_ble_eq_true rfl) dX4_classes_1 (fun r σ1 h1 => ?_)
  obtain ⟨h1, rfl⟩ := h1
  refine gi_if_ne hC 10 dX4_classes_4 (by decide) (fun h2 => ?_) (fun h2 => ?_)
  ·
    obtain ⟨kk, hk, rfl⟩ : ∃ j, j < 7 ∧ k = nI j := by
      rcases h1 with ⟨-, z⟩ | ⟨z, -⟩
      · exact z
      · exact absurd z h2
    refine gi_aldn hC dX4_classes_10 rfl ?_
    refine gi_ildn hC dX4_classes_11 rfl ?_
    refine gk_VV (n := 1) hC (fun l => c_X4_hold l E σ1 n ps U V hM kk hk) (gm_o4 E) rfl (gw_V gw_385 gw_387 gw_11 gw_28 gw_388) rfl ⟨rfl, rfl⟩ rfl (by decide +kernel) ⟨by decide, by decide⟩ (Nat.le_of_ble_eq_true rfl) dX4_classes_12 (fun σ2 h3 => ?_)
    obtain ⟨hf, hb⟩ := h3
    have hM2 := mG_h hf hM
    obtain ⟨H, hH⟩ : ∃ H, H = hdd n U V ps kk := ⟨_, rfl⟩
    rw [← hH] at hb
    obtain ⟨Z, hZ⟩ : ∃ Z, Z = mcl_lp n U V H kk n 0 0 := ⟨_, rfl⟩
    have hfin : ∀ c, c = Z → ∀ lo, gm_G X E 6 88 lo [.int (nI c)] σ2 := fun c hc lo => hR _ _ _ _ rfl ⟨hf, Or.inr ⟨kk, hk, rfl, by rw [← hH, ← hZ, hc]⟩⟩ dX4_classes_88
    have hn3 : σ2.1 5 0 = nI n := hM2.2.2.1
    have LI : ∀ m a b (rr : Bool) c, a < n → b + m = a → (∀ r2 : Bool, r2 = fst_lp n U V H kk a m b rr → ∀ w5 : Option Value, gm_G X E 6 68 [some (.ref (E.2.2 5)), some (.int (nI kk)), some (.int (nI c)), some (.int (nI a)), some (.int (if r2 = true then 1 else 0)), w5] [] σ2) → gm_G X E 6 33 [some (.ref (E.2.2 5)), some (.int (nI kk)), some (.int (nI c)), some (.int (nI a)), some (.int (if rr = true then 1 else 0)), some (.int (nI b))] [] σ2 := by
      intro m
      induction m with
      | zero =>
        intro a b rr c ha hb0 KK
        have hb0 : b = a := by omega
        subst hb0
        refine gi_ild hC dX4_classes_33 rfl ?_
        refine gi_ildn hC dX4_classes_35 rfl ?_
        refine gi_icmp_ge hC 68 dX4_classes_36 (by decide) (fun h5 => ?_) (fun h5 => ?_)
        · exact KK rr rfl _
        · exact absurd (Int32.le_refl _) h5
      | succ m ih =>
        intro a b rr c ha hb0 KK
        refine gi_ild hC dX4_classes_33 rfl ?_
        refine gi_ildn hC dX4_classes_35 rfl ?_
        refine gi_icmp_ge hC 68 dX4_classes_36 (by decide) (fun h5 => ?_) (fun h5 => ?_)
        · exact absurd h5 (nI_ge (a := b) (b := a) (by omega) (by omega))
        ·
          have NX : ∀ r2 : Bool, r2 = (rr && !tgt n U V H kk a b) → ∀ w4 : Option Value, gm_G X E 6 60 [some (.ref (E.2.2 5)), some (.int (nI kk)), some (.int (nI c)), some (.int (nI a)), w4, some (.int (nI b))] [.int (if r2 = true then 1 else 0)] σ2 := by
            intro r2 hr2 w4
            refine gi_ist_4 hC dX4_classes_60 (by decide) ?_
            refine gi_iinc_5 hC dX4_classes_62 (nI_1 b) (by decide) ?_
            refine gi_goto hC 33 dX4_classes_65 (by decide) ?_
            exact ih a (b + 1) r2 c ha (by omega) (fun r3 h3 w5 => KK r3 (by rw [fst_lp, ← hr2]; exact h3) w5)
          refine gi_ild hC dX4_classes_39 rfl ?_
          refine gi_if_eq hC 59 dX4_classes_41 (by decide) (fun h6 => ?_) (fun h6 => ?_)
          ·
            have hrr : rr = false := by
              cases rr
              · rfl
              · exact absurd h6 (by decide)
            refine gi_const hC (v := 0) dX4_classes_59 (by decide) ?_
            exact NX false (by rw [hrr]; rfl) _
          ·
            have hrr : rr = true := by
              cases rr
              · exact absurd rfl h6
              · rfl
            refine gi_aldn hC dX4_classes_44 rfl ?_
            refine gi_ildn hC dX4_classes_45 rfl ?_
            refine gi_ildn hC dX4_classes_46 rfl ?_
            refine gi_ild hC dX4_classes_47 rfl ?_
            refine gk_VI (n := 3) hC (fun l => c_X4_isTight l E σ2 n ps U V hM2 H hb kk hk a b (by omega) (by omega)) (gm_o4 E) rfl (gw_V gw_444 gw_446 gw_21 gw_28 gw_447) rfl ⟨rfl, rfl⟩ rfl (by decide +kernel) ⟨by decide, by decide⟩ (Nat.le_of_ble_eq_true rfl) dX4_classes_49 (fun r7 σ7 h7 => ?_)
            obtain ⟨h7, rfl⟩ := h7
            cases ht : tgt n U V H kk a b with
            | true =>
              rw [ht, if_pos rfl] at h7
              subst h7
              refine gi_if_ne hC 59 dX4_classes_52 (by decide) (fun h8 => ?_) (fun h8 => ?_)
              ·
                refine gi_const hC (v := 0) dX4_classes_59 (by decide) ?_
                exact NX false (by rw [hrr, ht]; rfl) _
              · exact absurd h8 (by decide)
            | false =>
              rw [ht, if_neg Bool.false_ne_true] at h7
              subst h7
              refine gi_if_ne hC 59 dX4_classes_52 (by decide) (fun h8 => ?_) (fun h8 => ?_)
              · exact absurd rfl h8
              ·
                refine gi_const hC (v := 1) dX4_classes_55 (by decide) ?_
                refine gi_goto hC 60 dX4_classes_56 (by decide) ?_
                exact NX true (by rw [hrr, ht]; rfl) _
    have LO : ∀ m a c (w4 w5 : Option Value), a + m = n → Z = mcl_lp n U V H kk m a c → gm_G X E 6 19 [some (.ref (E.2.2 5)), some (.int (nI kk)), some (.int (nI c)), some (.int (nI a)), w4, w5] [] σ2 := by
      intro m
      induction m with
      | zero =>
        intro a c w4 w5 ha hw
        have ha : a = n := by omega
        subst ha
        rw [mcl_lp] at hw
        refine gi_ildn hC dX4_classes_19 rfl ?_
        refine gi_aldn hC dX4_classes_20 rfl ?_
        refine gf_M_n hC gw_316 dX4_classes_21 ?_
        rw [hn3]
        refine gi_icmp_ge hC 87 dX4_classes_24 (by decide) (fun h5 => ?_) (fun h5 => ?_)
        ·
          refine gi_ildn hC dX4_classes_87 rfl ?_
          exact hfin c hw.symm _
        · exact absurd (Int32.le_refl _) h5
      | succ m ih =>
        intro a c w4 w5 ha hw
        rw [mcl_lp] at hw
        refine gi_ildn hC dX4_classes_19 rfl ?_
        refine gi_aldn hC dX4_classes_20 rfl ?_
        refine gf_M_n hC gw_316 dX4_classes_21 ?_
        rw [hn3]
        refine gi_icmp_ge hC 87 dX4_classes_24 (by decide) (fun h5 => ?_) (fun h5 => ?_)
        · exact absurd h5 (nI_ge (a := a) (b := n) (by omega) (by omega))
        ·
          refine gi_const hC (v := 1) dX4_classes_27 (by decide) ?_
          refine gi_ist_4 hC dX4_classes_28 (by decide) ?_
          refine gi_const hC (v := 0) dX4_classes_30 (by decide) ?_
          refine gi_ist_5 hC dX4_classes_31 (by decide) ?_
          refine LI a a 0 true c (by omega) (by omega) (fun r2 hr2 w5 => ?_)
          rw [← hr2] at hw
          cases r2 with
          | true =>
            rw [if_pos rfl] at hw
            refine gi_ild hC dX4_classes_68 rfl ?_
            refine gi_if_eq hC 79 dX4_classes_70 (by decide) (fun h6 => ?_) (fun h6 => ?_)
            · exact absurd h6 (by decide)
            ·
              refine gi_ildn hC dX4_classes_73 rfl ?_
              refine gi_const hC (v := 1) dX4_classes_74 (by decide) ?_
              refine gi_iadd hC dX4_classes_75 ?_
              rw [nI_1]
              refine gi_goto hC 80 dX4_classes_76 (by decide) ?_
              refine gi_istn_2 hC dX4_classes_80 (by decide) ?_
              refine gi_iinc_3 hC dX4_classes_81 (nI_1 a) (by decide) ?_
              refine gi_goto hC 19 dX4_classes_84 (by decide) ?_
              exact ih (a + 1) (c + 1) _ _ (by omega) hw
          | false =>
            rw [if_neg Bool.false_ne_true] at hw
            refine gi_ild hC dX4_classes_68 rfl ?_
            refine gi_if_eq hC 79 dX4_classes_70 (by decide) (fun h6 => ?_) (fun h6 => ?_)
            ·
              refine gi_ildn hC dX4_classes_79 rfl ?_
              refine gi_istn_2 hC dX4_classes_80 (by decide) ?_
              refine gi_iinc_3 hC dX4_classes_81 (nI_1 a) (by decide) ?_
              refine gi_goto hC 19 dX4_classes_84 (by decide) ?_
              exact ih (a + 1) c _ _ (by omega) hw
            · exact absurd rfl h6
    refine gi_const hC (v := 0) dX4_classes_15 (by decide) ?_
    refine gi_istn_2 hC dX4_classes_16 (by decide) ?_
    refine gi_const hC (v := 0) dX4_classes_17 (by decide) ?_
    refine gi_istn_3 hC dX4_classes_18 (by decide) ?_
    exact LO n 0 0 _ _ (by omega) hZ
  ·
    have hn : ¬ ∃ j, j < 7 ∧ k = nI j := by
      rcases h1 with ⟨z, -⟩ | ⟨-, z⟩
      · rw [z] at h2; exact absurd h2 (by decide)
      · exact z
    refine gi_bipush hC (v := -2) dX4_classes_7 (by decide) ?_
    exact hR _ _ _ _ rfl ⟨gm_fr_rf, Or.inl ⟨rfl, hn⟩⟩ dX4_classes_9
set_option maxHeartbeats 4000000 in
set_option maxRecDepth 100000 in
theorem c_X4_crossing (l : Launch) (E : gm_E) (σ : gm_S) (n : Nat) (ps : Nat → Bool) (U V : Nat → Nat) (hM : mG σ n ps U V) (k : Int32) : gm_MI l E yX4_crossing (.code yX4_crossing cX4_crossing 4 (some .int) :: gw_T) { frames := 3, cells := 0, slots := 0, locals := 75 } [.ref (E.2.2 5), .int k] σ (fun r σ2 => hFR σ σ2 ∧ ((r = -2 ∧ ¬ ∃ j, j < 7 ∧ k = nI j) ∨ ∃ kk, kk < 7 ∧ k = nI kk ∧ r = nI (mcr_lp n U V ps (hdd n U V ps kk) kk 24 0 0))) := by
  refine gm_enterI RX4 (by decide +kernel) rfl rfl (Nat.le_of_ble_eq_true rfl) (gm_c1_ok rfl) ?_
  intro X hC hR
  show gm_G X E 4 0 [some (.ref (E.2.2 5)), some (.int k), none, none] [] σ
  obtain ⟨g1, g2, g3, g4, g5, g6, g7⟩ := id hM
  refine gi_ildn hC dX4_crossing_0 rfl ?_
  refine gk_SI (n := 1) hC (fun l => c_X4_isK l E σ k) (gw_S gw_382 gw_383 gw_28 gw_384) rfl ⟨rfl, rfl⟩ rfl (by decide +kernel) ⟨by decide, by decide⟩ (Nat.le_of_ble_eq_true rfl) dX4_crossing_1 (fun r σ1 h1 => ?_)
  obtain ⟨h1, rfl⟩ := h1
  refine gi_if_ne hC 10 dX4_crossing_4 (by decide) (fun h2 => ?_) (fun h2 => ?_)
  ·
    obtain ⟨kk, hk, rfl⟩ : ∃ j, j < 7 ∧ k = nI j := by
      rcases h1 with ⟨-, z⟩ | ⟨z, -⟩
      · exact z
      · exact absurd z h2
    refine gi_aldn hC dX4_crossing_10 rfl ?_
    refine gi_ildn hC dX4_crossing_11 rfl ?_
    refine gk_VV (n := 1) hC (fun l => c_X4_hold l E σ1 n ps U V hM kk hk) (gm_o4 E) rfl (gw_V gw_385 gw_387 gw_11 gw_28 gw_388) rfl ⟨rfl, rfl⟩ rfl (by decide +kernel) ⟨by decide, by decide⟩ (Nat.le_of_ble_eq_true rfl) dX4_crossing_12 (fun σ2 h3 => ?_)
    obtain ⟨hf, hb⟩ := h3
    have hM2 := mG_h hf hM
    obtain ⟨k1, k2, k3, k4, k5, k6, k7⟩ := id hM2
    obtain ⟨H, hH⟩ : ∃ H, H = hdd n U V ps kk := ⟨_, rfl⟩
    rw [← hH] at hb
    obtain ⟨Z, hZ⟩ : ∃ Z, Z = mcr_lp n U V ps H kk 24 0 0 := ⟨_, rfl⟩
    have L : ∀ m i c, i + m = 24 → Z = mcr_lp n U V ps H kk m i c → gm_G X E 4 19 [some (.ref (E.2.2 5)), some (.int (nI kk)), some (.int (nI c)), some (.int (nI i))] [] σ2 := by
      intro m
      induction m with
      | zero =>
        intro i c hi0 hw
        have hi0 : i = 24 := by omega
        subst hi0
        rw [mcr_lp] at hw
        refine gi_ildn hC dX4_crossing_19 rfl ?_
        refine gi_bipush hC (v := 24) dX4_crossing_20 (by decide) ?_
        refine gi_icmp_ge hC 74 dX4_crossing_22 (by decide) (fun h5 => ?_) (fun h5 => ?_)
        ·
          refine gi_ildn hC dX4_crossing_74 rfl ?_
          exact hR _ _ _ _ rfl ⟨hf, Or.inr ⟨kk, hk, rfl, by rw [← hH, ← hZ, hw]⟩⟩ dX4_crossing_75
        · exact absurd (Int32.le_refl _) h5
      | succ m ih =>
        intro i c hi0 hw
        rw [mcr_lp] at hw
        have hzi := k4 i (by omega)
        obtain ⟨e1, e2, e3, e4⟩ := k5 i (by omega)
        have N : ¬ (ps i = true ∧ tgt n U V H kk (U i) (V i) = false) → gm_G X E 4 66 [some (.ref (E.2.2 5)), some (.int (nI kk)), some (.int (nI c)), some (.int (nI i))] [] σ2 := by
          intro hx
          rw [if_neg hx] at hw
          refine gi_ildn hC dX4_crossing_66 rfl ?_
          refine gi_istn_2 hC dX4_crossing_67 (by decide) ?_
          refine gi_iinc_3 hC dX4_crossing_68 (nI_1 i) (by decide) ?_
          refine gi_goto hC 19 dX4_crossing_71 (by decide) ?_
          exact ih (i + 1) c (by omega) hw
        refine gi_ildn hC dX4_crossing_19 rfl ?_
        refine gi_bipush hC (v := 24) dX4_crossing_20 (by decide) ?_
        refine gi_icmp_ge hC 74 dX4_crossing_22 (by decide) (fun h5 => ?_) (fun h5 => ?_)
        · exact absurd h5 (nI_ge (a := i) (b := 24) (by omega) (by omega))
        ·
          refine gi_aldn hC dX4_crossing_25 rfl ?_
          refine gf_M_isEdge hC gw_318 dX4_crossing_26 ?_
          refine gi_ildn hC dX4_crossing_29 rfl ?_
          refine gi_zald hC (gm_i7 E) (j := i) (by omega) rfl (by first | decide | omega) dX4_crossing_30 ?_
          rw [hzi]
          refine gi_if_eq hC 66 dX4_crossing_31 (by decide) (fun h6 => ?_) (fun h6 => ?_)
          · exact N (fun z => by rw [if_pos z.1] at h6; exact absurd h6 (by decide))
          ·
            have hpi : ps i = true := by
              cases hbb : ps i
              · rw [hbb] at h6; exact absurd rfl h6
              · rfl
            refine gi_aldn hC dX4_crossing_34 rfl ?_
            refine gi_ildn hC dX4_crossing_35 rfl ?_
            refine gi_aldn hC dX4_crossing_36 rfl ?_
            refine gf_M_ends hC gw_317 dX4_crossing_37 ?_
            refine gi_const hC (v := 2) dX4_crossing_40 (by decide) ?_
            refine gi_ildn hC dX4_crossing_41 rfl ?_
            refine gi_imul hC dX4_crossing_42 ?_
            refine gi_iald hC (gm_i6 E) (j := 2 * i) (by omega) (by rw [show (2 : Int32) = nI 2 from rfl, pk_mul]) (by first | decide | omega) dX4_crossing_43 ?_
            refine gi_aldn hC dX4_crossing_44 rfl ?_
            refine gf_M_ends hC gw_317 dX4_crossing_45 ?_
            refine gi_const hC (v := 2) dX4_crossing_48 (by decide) ?_
            refine gi_ildn hC dX4_crossing_49 rfl ?_
            refine gi_imul hC dX4_crossing_50 ?_
            refine gi_const hC (v := 1) dX4_crossing_51 (by decide) ?_
            refine gi_iadd hC dX4_crossing_52 ?_
            refine gi_iald hC (gm_i6 E) (j := 2 * i + 1) (by omega) (by rw [show (2 : Int32) = nI 2 from rfl, pk_mul, nI_1]) (by first | decide | omega) dX4_crossing_53 ?_
            rw [e1, e2]
            refine gk_VI (n := 3) hC (fun l => c_X4_isTight l E σ2 n ps U V hM2 H hb kk hk (U i) (V i) e3 e4) (gm_o4 E) rfl (gw_V gw_444 gw_446 gw_21 gw_28 gw_447) rfl ⟨rfl, rfl⟩ rfl (by decide +kernel) ⟨by decide, by decide⟩ (Nat.le_of_ble_eq_true rfl) dX4_crossing_54 (fun r7 σ7 h7 => ?_)
            obtain ⟨h7, rfl⟩ := h7
            cases ht : tgt n U V H kk (U i) (V i) with
            | true =>
              rw [ht, if_pos rfl] at h7
              subst h7
              refine gi_if_ne hC 66 dX4_crossing_57 (by decide) (fun h8 => ?_) (fun h8 => ?_)
              · exact N (fun z => by rw [ht] at z; cases z.2)
              · exact absurd h8 (by decide)
            | false =>
              rw [ht, if_neg Bool.false_ne_true] at h7
              subst h7
              rw [if_pos ⟨hpi, ht⟩] at hw
              refine gi_if_ne hC 66 dX4_crossing_57 (by decide) (fun h8 => ?_) (fun h8 => ?_)
              · exact absurd rfl h8
              ·
                refine gi_ildn hC dX4_crossing_60 rfl ?_
                refine gi_const hC (v := 1) dX4_crossing_61 (by decide) ?_
                refine gi_iadd hC dX4_crossing_62 ?_
                rw [nI_1]
                refine gi_goto hC 67 dX4_crossing_63 (by decide) ?_
                refine gi_istn_2 hC dX4_crossing_67 (by decide) ?_
                refine gi_iinc_3 hC dX4_crossing_68 (nI_1 i) (by decide) ?_
                refine gi_goto hC 19 dX4_crossing_71 (by decide) ?_
                exact ih (i + 1) (c + 1) (by omega) hw
    refine gi_const hC (v := 0) dX4_crossing_15 (by decide) ?_
    refine gi_istn_2 hC dX4_crossing_16 (by decide) ?_
    refine gi_const hC (v := 0) dX4_crossing_17 (by decide) ?_
    refine gi_istn_3 hC dX4_crossing_18 (by decide) ?_
    exact L 24 0 0 rfl hZ
  ·
    have hn : ¬ ∃ j, j < 7 ∧ k = nI j := by
      rcases h1 with ⟨z, -⟩ | ⟨-, z⟩
      · rw [z] at h2; exact absurd h2 (by decide)
      · exact z
    refine gi_bipush hC (v := -2) dX4_crossing_7 (by decide) ?_
    exact hR _ _ _ _ rfl ⟨gm_fr_rf, Or.inl ⟨rfl, hn⟩⟩ dX4_crossing_9
set_option maxHeartbeats 4000000 in
set_option maxRecDepth 100000 in
theorem c_X4_arboricity (l : Launch) (E : gm_E) (σ : gm_S) (n : Nat) (ps : Nat → Bool) (U V : Nat → Nat) (hM : mG σ n ps U V)  : gm_MI l E yX4_arboricity (.code yX4_arboricity cX4_arboricity 3 (some .int) :: gw_T) { frames := 4, cells := 0, slots := 0, locals := 95 } [.ref (E.2.2 5)] σ (fun r σ2 => hFR σ σ2 ∧ marb n U V ps r) := by
  refine gm_enterI RX4 (by decide +kernel) rfl rfl (Nat.le_of_ble_eq_true rfl) (gm_c1_ok rfl) ?_
  intro X hC hR
  show gm_G X E 3 0 [some (.ref (E.2.2 5)), none, none] [] σ
  obtain ⟨g1, g2, g3, g4, g5, g6, g7⟩ := id hM
  have hP24 := cnt_lt24 ps
  have L : ∀ m kk (σ3 : gm_S), kk + m = 7 → hFR σ σ3 → (∀ k2, k2 < kk → cnt_lp (hdd n U V ps k2) 24 0 0 ≠ cnt_lp ps 24 0 0) → gm_G X E 3 7 [some (.ref (E.2.2 5)), some (.int (nI (cnt_lp ps 24 0 0))), some (.int (nI kk))] [] σ3 := by
    intro m
    induction m with
    | zero =>
      intro kk σ3 hv hf hw
      have hv : kk = 7 := by omega
      subst hv
      refine gi_ildn hC dX4_arboricity_7 rfl ?_
      refine gi_bipush hC (v := 6) dX4_arboricity_8 (by decide) ?_
      refine gi_icmp_gt hC 30 dX4_arboricity_10 (by decide) (fun h5 => ?_) (fun h5 => ?_)
      ·
        refine gi_const hC (v := -1) dX4_arboricity_30 (by decide) ?_
        exact hR _ _ _ _ rfl ⟨hf, Or.inr ⟨rfl, hw⟩⟩ dX4_arboricity_31
      · exact absurd (by decide) h5
    | succ m ih =>
      intro kk σ3 hv hf hw
      have hk : kk < 7 := by omega
      have hH24 := cnt_lt24 (hdd n U V ps kk)
      refine gi_ildn hC dX4_arboricity_7 rfl ?_
      refine gi_bipush hC (v := 6) dX4_arboricity_8 (by decide) ?_
      refine gi_icmp_gt hC 30 dX4_arboricity_10 (by decide) (fun h5 => ?_) (fun h5 => ?_)
      · exact absurd h5 (nI_nlt (a := 6) (b := kk) (by omega) (by omega))
      ·
        refine gi_aldn hC dX4_arboricity_13 rfl ?_
        refine gi_ildn hC dX4_arboricity_14 rfl ?_
        refine gk_VI (n := 1) hC (fun l => c_X4_most l E σ3 n ps U V (mG_h hf hM) (nI kk)) (gm_o4 E) rfl (gw_V gw_460 gw_379 gw_380 gw_28 gw_381) rfl ⟨rfl, rfl⟩ rfl (by decide +kernel) ⟨by decide, by decide⟩ (Nat.le_of_ble_eq_true rfl) dX4_arboricity_15 (fun r6 σ6 h6 => ?_)
        obtain ⟨h6f, h6⟩ := h6
        have hf6 := gm_fr_tr hf h6f
        have h6 : r6 = nI (cnt_lp (hdd n U V ps kk) 24 0 0) := by
          rcases h6 with ⟨-, z⟩ | ⟨k2, z1, z2, z3⟩
          · exact absurd ⟨kk, hk, rfl⟩ z
          · rw [(nI_eq (by omega) (by omega)).mp z2]; exact z3
        subst h6
        refine gi_ildn hC dX4_arboricity_18 rfl ?_
        refine gi_icmp_ne hC 24 dX4_arboricity_19 (by decide) (fun h7 => ?_) (fun h7 => ?_)
        ·
          refine gi_iinc_2 hC dX4_arboricity_24 (nI_1 kk) (by decide) ?_
          refine gi_goto hC 7 dX4_arboricity_27 (by decide) ?_
          exact ih (kk + 1) σ6 (by omega) hf6 (fun k2 hk2 => by
            by_cases e : k2 = kk
            · subst e; exact fun z => h7 (by rw [z])
            · exact hw k2 (by omega))
        ·
          refine gi_ildn hC dX4_arboricity_22 rfl ?_
          exact hR _ _ _ _ rfl ⟨hf6, Or.inl ⟨kk, hk, rfl, (nI_eq (by omega) (by omega)).mp h7, hw⟩⟩ dX4_arboricity_23
  refine gi_aldn hC dX4_arboricity_0 rfl ?_
  refine gk_VI (n := 0) hC (fun l => c_X4_many l E σ ps g4) (gm_o4 E) rfl (gw_V gw_358 gw_360 gw_8 gw_28 gw_361) rfl ⟨rfl, rfl⟩ rfl (by decide +kernel) ⟨by decide, by decide⟩ (Nat.le_of_ble_eq_true rfl) dX4_arboricity_1 (fun r1 σ1 h1 => ?_)
  obtain ⟨rfl, rfl⟩ := h1
  refine gi_istn_1 hC dX4_arboricity_4 (by decide) ?_
  refine gi_const hC (v := 0) dX4_arboricity_5 (by decide) ?_
  refine gi_istn_2 hC dX4_arboricity_6 (by decide) ?_
  exact L 7 0 σ1 rfl gm_fr_rf (fun k2 hk2 => absurd hk2 (Nat.not_lt_zero k2))
set_option maxHeartbeats 4000000 in
set_option maxRecDepth 100000 in
theorem c_X4_spanning (l : Launch) (E : gm_E) (σ : gm_S) (n : Nat) (ps : Nat → Bool) (U V : Nat → Nat) (hM : mG σ n ps U V)  : gm_MI l E yX4_spanning (.code yX4_spanning cX4_spanning 2 (some .int) :: gw_T) { frames := 4, cells := 0, slots := 0, locals := 95 } [.ref (E.2.2 5)] σ (fun r σ2 => hFR σ σ2 ∧ ∃ kk, kk < 7 ∧ r = nI kk ∧ cnt_lp (hdd n U V ps kk) 24 0 0 = kk * (n - 1) ∧ ∀ k2, kk < k2 → k2 < 7 → cnt_lp (hdd n U V ps k2) 24 0 0 ≠ k2 * (n - 1)) := by
  refine gm_enterI RX4 (by decide +kernel) rfl rfl (Nat.le_of_ble_eq_true rfl) (gm_c1_ok rfl) ?_
  intro X hC hR
  show gm_G X E 2 0 [some (.ref (E.2.2 5)), none] [] σ
  obtain ⟨g1, g2, g3, g4, g5, g6, g7⟩ := id hM
  have L : ∀ kk (σ3 : gm_S), kk < 7 → hFR σ σ3 → (∀ k2, kk < k2 → k2 < 7 → cnt_lp (hdd n U V ps k2) 24 0 0 ≠ k2 * (n - 1)) → gm_G X E 2 3 [some (.ref (E.2.2 5)), some (.int (nI kk))] [] σ3 := by
    intro kk
    induction kk with
    | zero =>
      intro σ3 hk hf hw
      have hM3 := mG_h hf hM
      have hH24 := cnt_lt24 (hdd n U V ps 0)
      have hkn : 0 * (n - 1) ≤ 6 * 9 := Nat.mul_le_mul (by omega) (by omega)
      refine gi_aldn hC dX4_spanning_3 rfl ?_
      refine gi_ildn hC dX4_spanning_4 rfl ?_
      refine gk_VI (n := 1) hC (fun l => c_X4_most l E σ3 n ps U V hM3 (nI (0))) (gm_o4 E) rfl (gw_V gw_460 gw_379 gw_380 gw_28 gw_381) rfl ⟨rfl, rfl⟩ rfl (by decide +kernel) ⟨by decide, by decide⟩ (Nat.le_of_ble_eq_true rfl) dX4_spanning_5 (fun r6 σ6 h6 => ?_)
      obtain ⟨h6f, h6⟩ := h6
      have hf6 := gm_fr_tr hf h6f
      have h6 : r6 = nI (cnt_lp (hdd n U V ps (0)) 24 0 0) := by
        rcases h6 with ⟨-, z⟩ | ⟨k2, z1, z2, z3⟩
        · exact absurd ⟨0, hk, rfl⟩ z
        · have ez := (nI_eq (by omega) (by omega)).mp z2
          subst ez
          exact z3
      subst h6
      refine gi_ildn hC dX4_spanning_8 rfl ?_
      refine gi_aldn hC dX4_spanning_9 rfl ?_
      refine gf_M_n hC gw_316 dX4_spanning_10 ?_
      rw [(mG_h hf6 hM).2.2.1]
      refine gi_const hC (v := 1) dX4_spanning_13 (by decide) ?_
      refine gi_isub hC dX4_spanning_14 ?_
      refine gi_imul hC dX4_spanning_15 ?_
      rw [show nI n - 1 = nI (n - 1) from by rw [show (1 : Int32) = nI 1 from rfl, pk_sub g1], pk_mul]
      refine gi_icmp_eq hC 25 dX4_spanning_16 (by decide) (fun h7 => ?_) (fun h7 => ?_)
      ·
        refine gi_ildn hC dX4_spanning_25 rfl ?_
        exact hR _ _ _ _ rfl ⟨hf6, 0, hk, rfl, (nI_eq (by omega) (by omega)).mp h7, hw⟩ dX4_spanning_26
      · refine absurd ?_ h7
        rw [Nat.zero_mul, show cnt_lp (hdd n U V ps 0) 24 0 0 = 0 by rw [hdd, hd_zero g7 24 0 (by omega)]; exact cnt_none 24 0 0]
    | succ kk ih =>
      intro σ3 hk hf hw
      have hM3 := mG_h hf hM
      have hH24 := cnt_lt24 (hdd n U V ps (kk + 1))
      have hkn : (kk + 1) * (n - 1) ≤ 6 * 9 := Nat.mul_le_mul (by omega) (by omega)
      refine gi_aldn hC dX4_spanning_3 rfl ?_
      refine gi_ildn hC dX4_spanning_4 rfl ?_
      refine gk_VI (n := 1) hC (fun l => c_X4_most l E σ3 n ps U V hM3 (nI ((kk + 1)))) (gm_o4 E) rfl (gw_V gw_460 gw_379 gw_380 gw_28 gw_381) rfl ⟨rfl, rfl⟩ rfl (by decide +kernel) ⟨by decide, by decide⟩ (Nat.le_of_ble_eq_true rfl) dX4_spanning_5 (fun r6 σ6 h6 => ?_)
      obtain ⟨h6f, h6⟩ := h6
      have hf6 := gm_fr_tr hf h6f
      have h6 : r6 = nI (cnt_lp (hdd n U V ps ((kk + 1))) 24 0 0) := by
        rcases h6 with ⟨-, z⟩ | ⟨k2, z1, z2, z3⟩
        · exact absurd ⟨(kk + 1), hk, rfl⟩ z
        · have ez := (nI_eq (by omega) (by omega)).mp z2
          subst ez
          exact z3
      subst h6
      refine gi_ildn hC dX4_spanning_8 rfl ?_
      refine gi_aldn hC dX4_spanning_9 rfl ?_
      refine gf_M_n hC gw_316 dX4_spanning_10 ?_
      rw [(mG_h hf6 hM).2.2.1]
      refine gi_const hC (v := 1) dX4_spanning_13 (by decide) ?_
      refine gi_isub hC dX4_spanning_14 ?_
      refine gi_imul hC dX4_spanning_15 ?_
      rw [show nI n - 1 = nI (n - 1) from by rw [show (1 : Int32) = nI 1 from rfl, pk_sub g1], pk_mul]
      refine gi_icmp_eq hC 25 dX4_spanning_16 (by decide) (fun h7 => ?_) (fun h7 => ?_)
      ·
        refine gi_ildn hC dX4_spanning_25 rfl ?_
        exact hR _ _ _ _ rfl ⟨hf6, (kk + 1), hk, rfl, (nI_eq (by omega) (by omega)).mp h7, hw⟩ dX4_spanning_26
      ·
        refine gi_iinc_1 hC dX4_spanning_19 (pk_m1 kk) (by decide) ?_
        refine gi_goto hC 3 dX4_spanning_22 (by decide) ?_
        exact ih σ6 (by omega) hf6 (fun k2 z1 z2 => by
          by_cases e : k2 = kk + 1
          · subst e; exact fun z => h7 (by rw [z])
          · exact hw k2 (by omega) z2)
  refine gi_bipush hC (v := 6) dX4_spanning_0 (by decide) ?_
  refine gi_istn_1 hC dX4_spanning_2 (by decide) ?_
  exact L 6 σ (by decide) gm_fr_rf (fun k2 z1 z2 => by omega)
set_option maxHeartbeats 4000000 in
set_option maxRecDepth 100000 in
theorem c_X4_dense (l : Launch) (E : gm_E) (σ : gm_S) (n : Nat) (ps : Nat → Bool) (U V : Nat → Nat) (hM : mG σ n ps U V)  : gm_MI l E yX4_dense (.code yX4_dense cX4_dense 6 (some .int) :: gw_T) { frames := 5, cells := 0, slots := 0, locals := 117 } [.ref (E.2.2 5)] σ (fun r σ2 => hFR σ σ2 ∧ ((r = -1 ∧ marb n U V ps (-1)) ∨ (r = 0 ∧ marb n U V ps (nI 0)) ∨ ∃ kk e, kk + 1 < 7 ∧ marb n U V ps (nI (kk + 1)) ∧ e < 24 ∧ ps e = true ∧ hdd n U V ps kk e = false ∧ (∀ d, d < e → ¬ (ps d = true ∧ hdd n U V ps kk d = false)) ∧ bm r (vs_lp U V (wyb n U V (hdd n U V ps kk) kk e) 24 0 (fun _ => false)))) := by
  refine gm_enterI RX4 (by decide +kernel) rfl rfl (Nat.le_of_ble_eq_true rfl) (gm_c1_ok rfl) ?_
  intro X hC hR
  show gm_G X E 6 0 [some (.ref (E.2.2 5)), none, none, none, none, none] [] σ
  obtain ⟨g1, g2, g3, g4, g5, g6, g7⟩ := id hM
  refine gi_aldn hC dX4_dense_0 rfl ?_
  refine gk_VI (n := 0) hC (fun l => c_X4_arboricity l E σ n ps U V hM) (gm_o4 E) rfl (gw_V gw_465 gw_457 gw_458 gw_28 gw_459) rfl ⟨rfl, rfl⟩ rfl (by decide +kernel) ⟨by decide, by decide⟩ (Nat.le_of_ble_eq_true rfl) dX4_dense_1 (fun r1 σ1 h1 => ?_)
  obtain ⟨h1f, a3⟩ := h1
  refine gi_istn_1 hC dX4_dense_4 (by decide) ?_
  refine gi_ildn hC dX4_dense_5 rfl ?_
  refine gi_const hC (v := 1) dX4_dense_6 (by decide) ?_
  refine gi_icmp_ge hC 12 dX4_dense_7 (by decide) (fun h2 => ?_) (fun h2 => ?_)
  ·
    obtain ⟨kk, hkz, rfl, hne⟩ : ∃ kk, kk + 1 < 7 ∧ r1 = nI (kk + 1) ∧ cnt_lp (hdd n U V ps kk) 24 0 0 ≠ cnt_lp ps 24 0 0 := by
      rcases id a3 with ⟨kz, z1, rfl, z3, z4⟩ | ⟨rfl, -⟩
      · rw [show (1 : Int32) = nI 1 from rfl, nI_leI (by omega) (by omega)] at h2
        exact ⟨kz - 1, by omega, by rw [show kz - 1 + 1 = kz by omega], z4 (kz - 1) (by omega)⟩
      · exact absurd h2 (by decide)
    have hk : kk < 7 := by omega
    refine gi_aldn hC dX4_dense_12 rfl ?_
    refine gi_ildn hC dX4_dense_13 rfl ?_
    refine gi_const hC (v := 1) dX4_dense_14 (by decide) ?_
    refine gi_isub hC dX4_dense_15 ?_
    rw [nI_pred]
    refine gk_VV (n := 1) hC (fun l => c_X4_hold l E σ1 n ps U V (mG_h h1f hM) kk hk) (gm_o4 E) rfl (gw_V gw_385 gw_387 gw_11 gw_28 gw_388) rfl ⟨rfl, rfl⟩ rfl (by decide +kernel) ⟨by decide, by decide⟩ (Nat.le_of_ble_eq_true rfl) dX4_dense_16 (fun σ3 h3 => ?_)
    obtain ⟨h3f, hb⟩ := h3
    have hf := gm_fr_tr h1f h3f
    have hM3 := mG_h hf hM
    obtain ⟨k1, k2, k3, k4, k5, k6, k7⟩ := id hM3
    obtain ⟨e9, e91, e92, e93⟩ := hdd_ex hne
    obtain ⟨H, hH⟩ : ∃ H, H = hdd n U V ps kk := ⟨_, rfl⟩
    rw [← hH] at hb e93
    have LV : ∀ e, e < 24 → ps e = true → H e = false → (∀ d, d < e → ¬ (ps d = true ∧ H d = false)) → ∀ (y : Int32) (S : Nat → Bool), bm y S → S = wyb n U V H kk e → ∀ m i (z : Int32) T, i + m = 24 → bm z T → vs_lp U V S 24 0 (fun _ => false) = vs_lp U V S m i T → gm_G X E 6 63 [some (.ref (E.2.2 5)), some (.int (nI (kk + 1))), some (.int (nI e)), some (.int y), some (.int z), some (.int (nI i))] [] σ3 := by
      intro e he hpe hHe hd y S hy hS
      obtain ⟨Z, hZ⟩ : ∃ Z, Z = vs_lp U V S 24 0 (fun _ => false) := ⟨_, rfl⟩
      rw [← hZ]
      intro m
      induction m with
      | zero =>
        intro i z T hi0 hz hw
        have hi0 : i = 24 := by omega
        subst hi0
        rw [vs_lp] at hw
        refine gi_ild hC dX4_dense_63 rfl ?_
        refine gi_bipush hC (v := 24) dX4_dense_65 (by decide) ?_
        refine gi_icmp_ge hC 121 dX4_dense_67 (by decide) (fun h5 => ?_) (fun h5 => ?_)
        ·
          refine gi_ild hC dX4_dense_121 rfl ?_
          exact hR _ _ _ _ rfl ⟨hf, Or.inr (Or.inr ⟨kk, e, hkz, a3, he, hpe, by rw [← hH]; exact hHe, by rw [← hH]; exact hd, by rw [← hH, ← hS, ← hZ, hw]; exact hz⟩)⟩ dX4_dense_123
        · exact absurd (Int32.le_refl _) h5
      | succ m ih =>
        intro i z T hi0 hz hw
        rw [vs_lp] at hw
        obtain ⟨l1, l2, l3, l4⟩ := k5 i (by omega)
        refine gi_ild hC dX4_dense_63 rfl ?_
        refine gi_bipush hC (v := 24) dX4_dense_65 (by decide) ?_
        refine gi_icmp_ge hC 121 dX4_dense_67 (by decide) (fun h5 => ?_) (fun h5 => ?_)
        · exact absurd h5 (nI_ge (a := i) (b := 24) (by omega) (by omega))
        ·
          refine gi_ildn hC dX4_dense_70 rfl ?_
          refine gi_ild hC dX4_dense_71 rfl ?_
          refine gi_ishr hC dX4_dense_73 ?_
          refine gi_const hC (v := 1) dX4_dense_74 (by decide) ?_
          refine gi_iand hC dX4_dense_75 ?_
          refine gi_const hC (v := 1) dX4_dense_76 (by decide) ?_
          rw [bm_tst hy (by omega)]
          refine gi_icmp_ne hC 111 dX4_dense_77 (by decide) (fun h6 => ?_) (fun h6 => ?_)
          ·
            rw [if_neg (fun q => h6 (by rw [if_pos q]))] at hw
            refine gi_ild hC dX4_dense_111 rfl ?_
            refine gi_ist_4 hC dX4_dense_113 (by decide) ?_
            refine gi_iinc_5 hC dX4_dense_115 (nI_1 i) (by decide) ?_
            refine gi_goto hC 63 dX4_dense_118 (by decide) ?_
            exact ih (i + 1) z T (by omega) hz hw
          ·
            have hSi : S i = true := by
              cases hq : S i
              · rw [hq] at h6; exact absurd h6 (by decide)
              · rfl
            rw [if_pos hSi] at hw
            refine gi_ild hC dX4_dense_80 rfl ?_
            refine gi_const hC (v := 1) dX4_dense_82 (by decide) ?_
            refine gi_aldn hC dX4_dense_83 rfl ?_
            refine gf_M_ends hC gw_317 dX4_dense_84 ?_
            refine gi_const hC (v := 2) dX4_dense_87 (by decide) ?_
            refine gi_ild hC dX4_dense_88 rfl ?_
            refine gi_imul hC dX4_dense_90 ?_
            refine gi_iald hC (gm_i6 E) (j := 2 * i) (by omega) (by rw [show (2 : Int32) = nI 2 from rfl, pk_mul]) (by first | decide | omega) dX4_dense_91 ?_
            rw [l1]
            refine gi_ishl hC dX4_dense_92 ?_
            refine gi_ior hC dX4_dense_93 ?_
            refine gi_const hC (v := 1) dX4_dense_94 (by decide) ?_
            refine gi_aldn hC dX4_dense_95 rfl ?_
            refine gf_M_ends hC gw_317 dX4_dense_96 ?_
            refine gi_const hC (v := 2) dX4_dense_99 (by decide) ?_
            refine gi_ild hC dX4_dense_100 rfl ?_
            refine gi_imul hC dX4_dense_102 ?_
            refine gi_const hC (v := 1) dX4_dense_103 (by decide) ?_
            refine gi_iadd hC dX4_dense_104 ?_
            refine gi_iald hC (gm_i6 E) (j := 2 * i + 1) (by omega) (by rw [show (2 : Int32) = nI 2 from rfl, pk_mul, nI_1]) (by first | decide | omega) dX4_dense_105 ?_
            rw [l2]
            refine gi_ishl hC dX4_dense_106 ?_
            refine gi_ior hC dX4_dense_107 ?_
            refine gi_goto hC 113 dX4_dense_108 (by decide) ?_
            refine gi_ist_4 hC dX4_dense_113 (by decide) ?_
            refine gi_iinc_5 hC dX4_dense_115 (nI_1 i) (by decide) ?_
            refine gi_goto hC 63 dX4_dense_118 (by decide) ?_
            refine ih (i + 1) _ _ (by omega) (bm_eq (bm_or (bm_or hz (bm_pow (n := U i) (by omega))) (bm_pow (n := V i) (by omega))) (fun j _ => ?_)) hw
            exact Bool.or_assoc _ _ _
    have LE : ∀ m e (w3 w4 w5 : Option Value), e + m = e9 → (∀ d, d < e → ¬ (ps d = true ∧ H d = false)) → gm_G X E 6 21 [some (.ref (E.2.2 5)), some (.int (nI (kk + 1))), some (.int (nI e)), w3, w4, w5] [] σ3 := by
      intro m
      induction m with
      | zero =>
        intro e w3 w4 w5 he0 hd
        have he0 : e = e9 := by omega
        subst he0
        have hpe := e92
        have hHe := e93
        have hze := k4 e e91
        rw [if_pos hpe] at hze
        refine gi_aldn hC dX4_dense_21 rfl ?_
        refine gf_M_isEdge hC gw_318 dX4_dense_22 ?_
        refine gi_ildn hC dX4_dense_25 rfl ?_
        refine gi_zald hC (gm_i7 E) (j := e) e91 rfl (by first | decide | omega) dX4_dense_26 ?_
        rw [hze]
        refine gi_if_eq hC 42 dX4_dense_27 (by decide) (fun h5 => ?_) (fun h5 => ?_)
        · exact absurd h5 (by decide)
        ·
          refine gi_aldn hC dX4_dense_30 rfl ?_
          refine gf_M_heldBits hC gw_319 dX4_dense_31 ?_
          refine gi_ildn hC dX4_dense_34 rfl ?_
          refine gi_ishr hC dX4_dense_35 ?_
          refine gi_const hC (v := 1) dX4_dense_36 (by decide) ?_
          refine gi_iand hC dX4_dense_37 ?_
          refine gi_const hC (v := 1) dX4_dense_38 (by decide) ?_
          rw [bm_tst hb (by omega)]
          refine gi_icmp_ne hC 48 dX4_dense_39 (by decide) (fun h6 => ?_) (fun h6 => ?_)
          ·
            refine gi_aldn hC dX4_dense_48 rfl ?_
            refine gi_ildn hC dX4_dense_49 rfl ?_
            refine gi_const hC (v := 1) dX4_dense_50 (by decide) ?_
            refine gi_isub hC dX4_dense_51 ?_
            refine gi_ildn hC dX4_dense_52 rfl ?_
            rw [nI_pred]
            refine gk_VI (n := 2) hC (fun l => c_X4_whyBits l E σ3 n ps U V hM3 H hb kk hk e (by omega)) (gm_o4 E) rfl (gw_V gw_436 gw_438 gw_20 gw_28 gw_439) rfl ⟨rfl, rfl⟩ rfl (by decide +kernel) ⟨by decide, by decide⟩ (Nat.le_of_ble_eq_true rfl) dX4_dense_53 (fun y σ7 h7 => ?_)
            obtain ⟨h7, rfl⟩ := h7
            refine gi_istn_3 hC dX4_dense_56 (by decide) ?_
            refine gi_const hC (v := 0) dX4_dense_57 (by decide) ?_
            refine gi_ist_4 hC dX4_dense_58 (by decide) ?_
            refine gi_const hC (v := 0) dX4_dense_60 (by decide) ?_
            refine gi_ist_5 hC dX4_dense_61 (by decide) ?_
            exact LV e (by omega) hpe hHe hd y _ h7 rfl 24 0 0 (fun _ => false) rfl bm_0 rfl
          · rw [hHe] at h6; exact absurd h6 (by decide)
      | succ m ih =>
        intro e w3 w4 w5 he0 hd
        have hze := k4 e (by omega)
        have NX : ∀ w3 w4 w5 : Option Value, ¬ (ps e = true ∧ H e = false) → gm_G X E 6 42 [some (.ref (E.2.2 5)), some (.int (nI (kk + 1))), some (.int (nI e)), w3, w4, w5] [] σ3 := by
          intro w3 w4 w5 hx
          refine gi_iinc_2 hC dX4_dense_42 (nI_1 e) (by decide) ?_
          refine gi_goto hC 21 dX4_dense_45 (by decide) ?_
          exact ih (e + 1) _ _ _ (by omega) (fun d hd2 => by
            by_cases z : d = e
            · subst z; exact hx
            · exact hd d (by omega))
        refine gi_aldn hC dX4_dense_21 rfl ?_
        refine gf_M_isEdge hC gw_318 dX4_dense_22 ?_
        refine gi_ildn hC dX4_dense_25 rfl ?_
        refine gi_zald hC (gm_i7 E) (j := e) (by omega) rfl (by first | decide | omega) dX4_dense_26 ?_
        rw [hze]
        refine gi_if_eq hC 42 dX4_dense_27 (by decide) (fun h5 => ?_) (fun h5 => ?_)
        · exact NX _ _ _ (fun z => by rw [if_pos z.1] at h5; exact absurd h5 (by decide))
        ·
          have hpe : ps e = true := by
            cases hbb : ps e
            · rw [hbb] at h5; exact absurd rfl h5
            · rfl
          refine gi_aldn hC dX4_dense_30 rfl ?_
          refine gf_M_heldBits hC gw_319 dX4_dense_31 ?_
          refine gi_ildn hC dX4_dense_34 rfl ?_
          refine gi_ishr hC dX4_dense_35 ?_
          refine gi_const hC (v := 1) dX4_dense_36 (by decide) ?_
          refine gi_iand hC dX4_dense_37 ?_
          refine gi_const hC (v := 1) dX4_dense_38 (by decide) ?_
          rw [bm_tst hb (by omega)]
          refine gi_icmp_ne hC 48 dX4_dense_39 (by decide) (fun h6 => ?_) (fun h6 => ?_)
          ·
            have hHe : H e = false := by
              cases hbb : H e
              · rfl
              · rw [hbb] at h6; exact absurd rfl h6
            refine gi_aldn hC dX4_dense_48 rfl ?_
            refine gi_ildn hC dX4_dense_49 rfl ?_
            refine gi_const hC (v := 1) dX4_dense_50 (by decide) ?_
            refine gi_isub hC dX4_dense_51 ?_
            refine gi_ildn hC dX4_dense_52 rfl ?_
            rw [nI_pred]
            refine gk_VI (n := 2) hC (fun l => c_X4_whyBits l E σ3 n ps U V hM3 H hb kk hk e (by omega)) (gm_o4 E) rfl (gw_V gw_436 gw_438 gw_20 gw_28 gw_439) rfl ⟨rfl, rfl⟩ rfl (by decide +kernel) ⟨by decide, by decide⟩ (Nat.le_of_ble_eq_true rfl) dX4_dense_53 (fun y σ7 h7 => ?_)
            obtain ⟨h7, rfl⟩ := h7
            refine gi_istn_3 hC dX4_dense_56 (by decide) ?_
            refine gi_const hC (v := 0) dX4_dense_57 (by decide) ?_
            refine gi_ist_4 hC dX4_dense_58 (by decide) ?_
            refine gi_const hC (v := 0) dX4_dense_60 (by decide) ?_
            refine gi_ist_5 hC dX4_dense_61 (by decide) ?_
            exact LV e (by omega) hpe hHe hd y _ h7 rfl 24 0 0 (fun _ => false) rfl bm_0 rfl
          · exact NX _ _ _ (fun z => by rw [z.2] at h6; exact absurd h6 (by decide))
    refine gi_const hC (v := 0) dX4_dense_19 (by decide) ?_
    refine gi_istn_2 hC dX4_dense_20 (by decide) ?_
    exact LE e9 0 _ _ _ (by omega) (fun d hd => absurd hd (Nat.not_lt_zero d))
  ·
    refine gi_ildn hC dX4_dense_10 rfl ?_
    rcases id a3 with ⟨kz, z1, rfl, z3, z4⟩ | ⟨rfl, -⟩
    · have hkz : kz = 0 := by
        rw [show (1 : Int32) = nI 1 from rfl, nI_leI (by omega) (by omega)] at h2
        omega
      subst hkz
      exact hR _ _ _ _ rfl ⟨h1f, Or.inr (Or.inl ⟨rfl, a3⟩)⟩ dX4_dense_11
    · exact hR _ _ _ _ rfl ⟨h1f, Or.inl ⟨rfl, a3⟩⟩ dX4_dense_11
set_option maxHeartbeats 4000000 in
set_option maxRecDepth 100000 in
theorem c_X4_told (l : Launch) (E : gm_E) (σ : gm_S) (n : Nat) (ps : Nat → Bool) (U V : Nat → Nat) (hM : mG σ n ps U V) (a w : Int32) : gm_MI l E yX4_told (.code yX4_told cX4_told 5 (some .int) :: gw_T) { frames := 2, cells := 0, slots := 0, locals := 43 } [.ref (E.2.2 5), .int a, .int w] σ (fun r σ2 => σ2 = σ ∧ ((r = -2 ∧ ¬ ∃ j, j < 5 ∧ w = nI j) ∨ (w = nI 0 ∧ ((r = -1 ∧ ¬ ∃ e, e < 24 ∧ a = nI e ∧ ps e = true) ∨ ∃ e, e < 24 ∧ a = nI e ∧ ps e = true ∧ r = nI (U e))) ∨ (w = nI 1 ∧ ((r = -1 ∧ ¬ ∃ e, e < 24 ∧ a = nI e ∧ ps e = true) ∨ ∃ e, e < 24 ∧ a = nI e ∧ ps e = true ∧ r = nI (V e))) ∨ (w = nI 2 ∧ r = nI (cnt_lp ps 24 0 0)) ∨ (w = nI 3 ∧ r = nI n) ∨ (w = nI 4 ∧ r = nI (am_lp U V ps (bt a) 24 0 0)))) := by
  refine gm_enterI RX4 (by decide +kernel) rfl rfl (Nat.le_of_ble_eq_true rfl) (gm_c1_ok rfl) ?_
  intro X hC hR
  show gm_G X E 5 0 [some (.ref (E.2.2 5)), some (.int a), some (.int w), none, none] [] σ
  obtain ⟨g1, g2, g3, g4, g5, g6, g7⟩ := id hM
  refine gi_ildn hC dX4_told_0 rfl ?_
  refine gi_const hC (v := 0) dX4_told_1 (by decide) ?_
  refine gi_const hC (v := 4) dX4_told_2 (by decide) ?_
  refine gk_SI (n := 3) hC (fun l => c_X4_in l E σ w 0 4) (gw_S gw_355 gw_356 gw_28 gw_357) rfl ⟨rfl, rfl⟩ rfl (by decide +kernel) ⟨by decide, by decide⟩ (Nat.le_of_ble_eq_true rfl) dX4_told_3 (fun r1 σ1 h1 => ?_)
  obtain ⟨h1, rfl⟩ := h1
  rw [show (0 : Int32) = nI 0 from rfl, show (4 : Int32) = nI 4 from rfl, nI_inn (by omega) (by omega)] at h1
  refine gi_if_ne hC 12 dX4_told_6 (by decide) (fun h2 => ?_) (fun h2 => ?_)
  ·
    obtain ⟨j, -, hj, rfl⟩ : ∃ j, 0 ≤ j ∧ j ≤ 4 ∧ w = nI j := by
      rcases h1 with ⟨-, z⟩ | ⟨z, -⟩
      · exact z
      · exact absurd z h2
    refine gi_ildn hC dX4_told_12 rfl ?_
    refine gi_const hC (v := 2) dX4_told_13 (by decide) ?_
    refine gi_icmp_ge hC 40 dX4_told_14 (by decide) (fun h3 => ?_) (fun h3 => ?_)
    ·
      rw [show (2 : Int32) = nI 2 from rfl, nI_leI (by omega) (by omega)] at h3
      refine gi_ildn hC dX4_told_40 rfl ?_
      refine gi_const hC (v := 2) dX4_told_41 (by decide) ?_
      refine gi_icmp_ne hC 50 dX4_told_42 (by decide) (fun h4 => ?_) (fun h4 => ?_)
      ·
        have hj2 : j ≠ 2 := fun z => h4 (by rw [z]; rfl)
        refine gi_ildn hC dX4_told_50 rfl ?_
        refine gi_const hC (v := 3) dX4_told_51 (by decide) ?_
        refine gi_icmp_ne hC 60 dX4_told_52 (by decide) (fun h5 => ?_) (fun h5 => ?_)
        ·
          have hj3 : j ≠ 3 := fun z => h5 (by rw [z]; rfl)
          obtain rfl : j = 4 := by omega
          obtain ⟨Z, hZ⟩ : ∃ Z, Z = am_lp U V ps (bt a) 24 0 0 := ⟨_, rfl⟩
          have L : ∀ m i c, i + m = 24 → Z = am_lp U V ps (bt a) m i c → gm_G X E 5 65 [some (.ref (E.2.2 5)), some (.int a), some (.int (nI 4)), some (.int (nI c)), some (.int (nI i))] [] σ1 := by
            intro m
            induction m with
            | zero =>
              intro i c hi0 hw
              have hi0 : i = 24 := by omega
              subst hi0
              rw [am_lp] at hw
              refine gi_ild hC dX4_told_65 rfl ?_
              refine gi_bipush hC (v := 24) dX4_told_67 (by decide) ?_
              refine gi_icmp_ge hC 132 dX4_told_69 (by decide) (fun h6 => ?_) (fun h6 => ?_)
              ·
                refine gi_ildn hC dX4_told_132 rfl ?_
                exact hR _ _ _ _ rfl ⟨rfl, Or.inr (Or.inr (Or.inr (Or.inr (Or.inr ⟨rfl, by rw [← hZ, hw]⟩))))⟩ dX4_told_133
              · exact absurd (Int32.le_refl _) h6
            | succ m ih =>
              intro i c hi0 hw
              rw [am_lp] at hw
              have hzi := g4 i (by omega)
              obtain ⟨l1, l2, l3, l4⟩ := g5 i (by omega)
              have N : ¬ (ps i = true ∧ bt a (U i) = true ∧ bt a (V i) = true) → gm_G X E 5 124 [some (.ref (E.2.2 5)), some (.int a), some (.int (nI 4)), some (.int (nI c)), some (.int (nI i))] [] σ1 := by
                intro hx
                rw [if_neg hx] at hw
                refine gi_ildn hC dX4_told_124 rfl ?_
                refine gi_istn_3 hC dX4_told_125 (by decide) ?_
                refine gi_iinc_4 hC dX4_told_126 (nI_1 i) (by decide) ?_
                refine gi_goto hC 65 dX4_told_129 (by decide) ?_
                exact ih (i + 1) c (by omega) hw
              refine gi_ild hC dX4_told_65 rfl ?_
              refine gi_bipush hC (v := 24) dX4_told_67 (by decide) ?_
              refine gi_icmp_ge hC 132 dX4_told_69 (by decide) (fun h6 => ?_) (fun h6 => ?_)
              · exact absurd h6 (nI_ge (a := i) (b := 24) (by omega) (by omega))
              ·
                refine gi_aldn hC dX4_told_72 rfl ?_
                refine gf_M_isEdge hC gw_318 dX4_told_73 ?_
                refine gi_ild hC dX4_told_76 rfl ?_
                refine gi_zald hC (gm_i7 E) (j := i) (by omega) rfl (by first | decide | omega) dX4_told_78 ?_
                rw [hzi]
                refine gi_if_eq hC 124 dX4_told_79 (by decide) (fun h7 => ?_) (fun h7 => ?_)
                · exact N (fun z => by rw [if_pos z.1] at h7; exact absurd h7 (by decide))
                ·
                  have hpi : ps i = true := by
                    cases hbb : ps i
                    · rw [hbb] at h7; exact absurd rfl h7
                    · rfl
                  refine gi_ildn hC dX4_told_82 rfl ?_
                  refine gi_aldn hC dX4_told_83 rfl ?_
                  refine gf_M_ends hC gw_317 dX4_told_84 ?_
                  refine gi_const hC (v := 2) dX4_told_87 (by decide) ?_
                  refine gi_ild hC dX4_told_88 rfl ?_
                  refine gi_imul hC dX4_told_90 ?_
                  refine gi_iald hC (gm_i6 E) (j := 2 * i) (by omega) (by rw [show (2 : Int32) = nI 2 from rfl, pk_mul]) (by first | decide | omega) dX4_told_91 ?_
                  rw [l1]
                  refine gi_ishr hC dX4_told_92 ?_
                  refine gi_const hC (v := 1) dX4_told_93 (by decide) ?_
                  refine gi_iand hC dX4_told_94 ?_
                  refine gi_const hC (v := 1) dX4_told_95 (by decide) ?_
                  refine gi_icmp_ne hC 124 dX4_told_96 (by decide) (fun h8 => ?_) (fun h8 => ?_)
                  · exact N (fun z => h8 ((b_tst1 a (by omega)).mpr z.2.1))
                  ·
                    refine gi_ildn hC dX4_told_99 rfl ?_
                    refine gi_aldn hC dX4_told_100 rfl ?_
                    refine gf_M_ends hC gw_317 dX4_told_101 ?_
                    refine gi_const hC (v := 2) dX4_told_104 (by decide) ?_
                    refine gi_ild hC dX4_told_105 rfl ?_
                    refine gi_imul hC dX4_told_107 ?_
                    refine gi_const hC (v := 1) dX4_told_108 (by decide) ?_
                    refine gi_iadd hC dX4_told_109 ?_
                    refine gi_iald hC (gm_i6 E) (j := 2 * i + 1) (by omega) (by rw [show (2 : Int32) = nI 2 from rfl, pk_mul, nI_1]) (by first | decide | omega) dX4_told_110 ?_
                    rw [l2]
                    refine gi_ishr hC dX4_told_111 ?_
                    refine gi_const hC (v := 1) dX4_told_112 (by decide) ?_
                    refine gi_iand hC dX4_told_113 ?_
                    refine gi_const hC (v := 1) dX4_told_114 (by decide) ?_
                    refine gi_icmp_ne hC 124 dX4_told_115 (by decide) (fun h9 => ?_) (fun h9 => ?_)
                    · exact N (fun z => h9 ((b_tst1 a (by omega)).mpr z.2.2))
                    ·
                      rw [if_pos ⟨hpi, (b_tst1 a (by omega)).mp h8, (b_tst1 a (by omega)).mp h9⟩] at hw
                      refine gi_ildn hC dX4_told_118 rfl ?_
                      refine gi_const hC (v := 1) dX4_told_119 (by decide) ?_
                      refine gi_iadd hC dX4_told_120 ?_
                      rw [nI_1]
                      refine gi_goto hC 125 dX4_told_121 (by decide) ?_
                      refine gi_istn_3 hC dX4_told_125 (by decide) ?_
                      refine gi_iinc_4 hC dX4_told_126 (nI_1 i) (by decide) ?_
                      refine gi_goto hC 65 dX4_told_129 (by decide) ?_
                      exact ih (i + 1) (c + 1) (by omega) hw
          refine gi_const hC (v := 0) dX4_told_60 (by decide) ?_
          refine gi_istn_3 hC dX4_told_61 (by decide) ?_
          refine gi_const hC (v := 0) dX4_told_62 (by decide) ?_
          refine gi_ist_4 hC dX4_told_63 (by decide) ?_
          exact L 24 0 0 rfl hZ
        ·
          obtain rfl : j = 3 := (nI_eq (b := 3) (by omega) (by omega)).mp h5
          refine gi_aldn hC dX4_told_55 rfl ?_
          refine gf_M_n hC gw_316 dX4_told_56 ?_
          exact hR _ _ _ _ rfl ⟨rfl, Or.inr (Or.inr (Or.inr (Or.inr (Or.inl ⟨rfl, g3⟩))))⟩ dX4_told_59
      ·
        obtain rfl : j = 2 := (nI_eq (b := 2) (by omega) (by omega)).mp h4
        refine gi_aldn hC dX4_told_45 rfl ?_
        refine gk_VI (n := 0) hC (fun l => c_X4_many l E σ1 ps g4) (gm_o4 E) rfl (gw_V gw_358 gw_360 gw_8 gw_28 gw_361) rfl ⟨rfl, rfl⟩ rfl (by decide +kernel) ⟨by decide, by decide⟩ (Nat.le_of_ble_eq_true rfl) dX4_told_46 (fun r6 σ6 h6 => ?_)
        obtain ⟨rfl, rfl⟩ := h6
        exact hR _ _ _ _ rfl ⟨rfl, Or.inr (Or.inr (Or.inr (Or.inl ⟨rfl, rfl⟩)))⟩ dX4_told_49
    ·
      rw [show (2 : Int32) = nI 2 from rfl, nI_leI (by omega) (by omega)] at h3
      refine gi_aldn hC dX4_told_17 rfl ?_
      refine gi_ildn hC dX4_told_18 rfl ?_
      refine gk_VI (n := 1) hC (fun l => c_X4_has l E σ1 ps g4 a) (gm_o4 E) rfl (gw_V gw_374 gw_376 gw_10 gw_28 gw_377) rfl ⟨rfl, rfl⟩ rfl (by decide +kernel) ⟨by decide, by decide⟩ (Nat.le_of_ble_eq_true rfl) dX4_told_19 (fun r3 σ3 h3x => ?_)
      obtain ⟨h3x, rfl⟩ := h3x
      refine gi_if_eq hC 38 dX4_told_22 (by decide) (fun h4 => ?_) (fun h4 => ?_)
      ·
        have hna : ¬ ∃ j, j < 24 ∧ a = nI j ∧ ps j = true := by
          rcases h3x with ⟨z, -⟩ | ⟨-, z⟩
          · rw [z] at h4; exact absurd h4 (by decide)
          · exact z
        refine gi_const hC (v := -1) dX4_told_38 (by decide) ?_
        rcases (show j = 0 ∨ j = 1 by omega) with rfl | rfl
        · exact hR _ _ _ _ rfl ⟨rfl, Or.inr (Or.inl ⟨rfl, Or.inl ⟨rfl, hna⟩⟩)⟩ dX4_told_39
        · exact hR _ _ _ _ rfl ⟨rfl, Or.inr (Or.inr (Or.inl ⟨rfl, Or.inl ⟨rfl, hna⟩⟩))⟩ dX4_told_39
      ·
        obtain ⟨e, he, rfl, hpe⟩ : ∃ j, j < 24 ∧ a = nI j ∧ ps j = true := by
          rcases h3x with ⟨-, z⟩ | ⟨z, -⟩
          · exact z
          · exact absurd z h4
        obtain ⟨l1, l2, l3, l4⟩ := g5 e he
        refine gi_aldn hC dX4_told_25 rfl ?_
        refine gf_M_ends hC gw_317 dX4_told_26 ?_
        refine gi_const hC (v := 2) dX4_told_29 (by decide) ?_
        refine gi_ildn hC dX4_told_30 rfl ?_
        refine gi_imul hC dX4_told_31 ?_
        refine gi_ildn hC dX4_told_32 rfl ?_
        refine gi_iadd hC dX4_told_33 ?_
        rcases (show j = 0 ∨ j = 1 by omega) with rfl | rfl
        ·
          refine gi_iald hC (gm_i6 E) (j := 2 * e) (by omega) (by rw [show (2 : Int32) = nI 2 from rfl, pk_mul, nI_add, Nat.add_zero]) (by first | decide | omega) dX4_told_34 ?_
          rw [l1]
          refine gi_goto hC 39 dX4_told_35 (by decide) ?_
          exact hR _ _ _ _ rfl ⟨rfl, Or.inr (Or.inl ⟨rfl, Or.inr ⟨e, he, rfl, hpe, rfl⟩⟩)⟩ dX4_told_39
        ·
          refine gi_iald hC (gm_i6 E) (j := 2 * e + 1) (by omega) (by rw [show (2 : Int32) = nI 2 from rfl, pk_mul, nI_add]) (by first | decide | omega) dX4_told_34 ?_
          rw [l2]
          refine gi_goto hC 39 dX4_told_35 (by decide) ?_
          exact hR _ _ _ _ rfl ⟨rfl, Or.inr (Or.inr (Or.inl ⟨rfl, Or.inr ⟨e, he, rfl, hpe, rfl⟩⟩))⟩ dX4_told_39
  ·
    have hn : ¬ ∃ j, 0 ≤ j ∧ j ≤ 4 ∧ w = nI j := by
      rcases h1 with ⟨z, -⟩ | ⟨-, z⟩
      · rw [z] at h2; exact absurd h2 (by decide)
      · exact z
    refine gi_bipush hC (v := -2) dX4_told_9 (by decide) ?_
    exact hR _ _ _ _ rfl ⟨rfl, Or.inl ⟨rfl, fun ⟨j, z1, z2⟩ => hn ⟨j, by omega, by omega, z2⟩⟩⟩ dX4_told_11
