/-! THE REFERENCE: begin, join, cut, hold, most, held, why, tight, classes, crossing -/
def wb_lp (n : Nat) (U V : Nat → Nat) (H : Nat → Bool) (k e : Nat) : Nat → Nat → (Nat → Bool) → (Nat → Bool)
  | 0, _, T => T
  | m + 1, f, T => if H f = true ∧ ftb n U V (fun i => (H i && !decide (i = f)) || decide (i = e)) k none = true then wb_lp n U V H k e m (f + 1) (fun i => T i || decide (i = f)) else wb_lp n U V H k e m (f + 1) T
def wyb (n : Nat) (U V : Nat → Nat) (H : Nat → Bool) (k e : Nat) : Nat → Bool := wb_lp n U V H k e 24 0 (fun i => decide (i = e))
def tgt (n : Nat) (U V : Nat → Nat) (H : Nat → Bool) (k a b : Nat) : Bool := decide (a = b) || !ftb n U V H k (some (a, b))
def fst_lp (n : Nat) (U V : Nat → Nat) (H : Nat → Bool) (k a : Nat) : Nat → Nat → Bool → Bool
  | 0, _, r => r
  | m + 1, b, r => fst_lp n U V H k a m (b + 1) (r && !tgt n U V H k a b)
def mcl_lp (n : Nat) (U V : Nat → Nat) (H : Nat → Bool) (k : Nat) : Nat → Nat → Nat → Nat
  | 0, _, c => c
  | m + 1, a, c => mcl_lp n U V H k m (a + 1) (if fst_lp n U V H k a a 0 true = true then c + 1 else c)
def mcr_lp (n : Nat) (U V : Nat → Nat) (ps H : Nat → Bool) (k : Nat) : Nat → Nat → Nat → Nat
  | 0, _, c => c
  | m + 1, e, c => mcr_lp n U V ps H k m (e + 1) (if ps e = true ∧ tgt n U V H k (U e) (V e) = false then c + 1 else c)
theorem ab_none : ab10 none := fun _ _ h => by cases h
theorem ab_some {a b : Nat} (ha : a < 10) (hb : b < 10) : ab10 (some (a, b)) := fun _ _ h => by cases h; exact ⟨ha, hb⟩
set_option maxHeartbeats 4000000 in
set_option maxRecDepth 100000 in
theorem c_X4_hold (l : Launch) (E : gm_E) (σ : gm_S) (n : Nat) (ps : Nat → Bool) (U V : Nat → Nat) (hM : mG σ n ps U V) (k : Nat) (hk : k < 7) : gm_MV l E yX4_hold (.code yX4_hold cX4_hold 3 none :: gw_T) { frames := 2, cells := 0, slots := 0, locals := 52 } [.ref (E.2.2 5), .int (nI k)] σ (fun σ2 => hFR σ σ2 ∧ bm (σ2.1 5 3) (hdd n U V ps k)) := by
  refine gm_enterV RX4 (by decide +kernel) rfl rfl (Nat.le_of_ble_eq_true rfl) (gm_c1_ok rfl) ?_
  intro X hC hR
  show gm_G X E 3 0 [some (.ref (E.2.2 5)), some (.int (nI k)), none] [] σ
  obtain ⟨g1, g2, g3, g4, g5, g6, g7⟩ := id hM
  obtain ⟨Z, hZ⟩ : ∃ Z, Z = hdd n U V ps k := ⟨_, rfl⟩
  rw [← hZ] at hR
  have L : ∀ m i S (σ2 : gm_S), i + m = 24 → hFR σ σ2 → bm (σ2.1 5 3) S → Z = hd_lp n U V ps k m i S → gm_G X E 3 7 [some (.ref (E.2.2 5)), some (.int (nI k)), some (.int (nI i))] [] σ2 := by
    intro m
    induction m with
    | zero =>
      intro i S σ2 hi0 hfr hb hw
      have hi0 : i = 24 := by omega
      subst hi0
      rw [hd_lp] at hw
      subst hw
      refine gi_ildn hC dX4_hold_7 rfl ?_
      refine gi_bipush hC (v := 24) dX4_hold_8 (by decide) ?_
      refine gi_icmp_ge hC 58 dX4_hold_10 (by decide) (fun h1 => ?_) (fun h1 => ?_)
      · exact hR _ _ _ ⟨hfr, hb⟩ dX4_hold_58
      · exact absurd (Int32.le_refl _) h1
    | succ m ih =>
      intro i S σ2 hi0 hfr hb hw
      obtain ⟨k1, k2, k3, k4, k5, k6, k7⟩ := mG_h hfr hM
      have hzi := k4 i (by omega)
      rw [hd_lp] at hw
      have NX : ∀ (σ3 : gm_S) S3, hFR σ σ3 → bm (σ3.1 5 3) S3 → Z = hd_lp n U V ps k m (i + 1) S3 → gm_G X E 3 52 [some (.ref (E.2.2 5)), some (.int (nI k)), some (.int (nI i))] [] σ3 := by
        intro σ3 S3 a1 a2 a3
        refine gi_iinc_2 hC dX4_hold_52 (nI_1 i) (by decide) ?_
        refine gi_goto hC 7 dX4_hold_55 (by decide) ?_
        exact ih (i + 1) S3 σ3 (by omega) a1 a2 a3
      refine gi_ildn hC dX4_hold_7 rfl ?_
      refine gi_bipush hC (v := 24) dX4_hold_8 (by decide) ?_
      refine gi_icmp_ge hC 58 dX4_hold_10 (by decide) (fun h1 => ?_) (fun h1 => ?_)
      · exact absurd h1 (nI_ge (a := i) (b := 24) (by omega) (by omega))
      ·
        refine gi_aldn hC dX4_hold_13 rfl ?_
        refine gf_M_isEdge hC gw_318 dX4_hold_14 ?_
        refine gi_ildn hC dX4_hold_17 rfl ?_
        refine gi_zald hC (gm_i7 E) (j := i) (by omega) rfl (by first | decide | omega) dX4_hold_18 ?_
        rw [hzi]
        refine gi_if_eq hC 52 dX4_hold_19 (by decide) (fun h2 => ?_) (fun h2 => ?_)
        ·
          rw [if_neg (fun z => by rw [if_pos z.1] at h2; exact absurd h2 (by decide))] at hw
          exact NX σ2 S hfr hb hw
        ·
          have hpi : ps i = true := by
            cases hbb : ps i
            · rw [hbb] at h2; exact absurd rfl h2
            · rfl
          refine gi_aldn hC dX4_hold_22 rfl ?_
          refine gi_aldn hC dX4_hold_23 rfl ?_
          refine gf_M_heldBits hC gw_319 dX4_hold_24 ?_
          refine gi_const hC (v := 1) dX4_hold_27 (by decide) ?_
          refine gi_ildn hC dX4_hold_28 rfl ?_
          refine gi_ishl hC dX4_hold_29 ?_
          refine gi_ior hC dX4_hold_30 ?_
          refine gi_ildn hC dX4_hold_31 rfl ?_
          refine gi_const hC (v := -1) dX4_hold_32 (by decide) ?_
          refine gi_const hC (v := -1) dX4_hold_33 (by decide) ?_
          refine gk_VI (n := 4) hC (fun l => c_X4_fits l E σ2 n k1 k2 k3 U V k5 _ (fun j => S j || decide (j = i)) (bm_or hb (bm_pow (by omega))) k hk none ab_none) (gm_o4 E) rfl (gw_V gw_389 gw_391 gw_12 gw_28 gw_392) rfl ⟨rfl, rfl⟩ rfl (by decide +kernel) ⟨by decide, by decide⟩ (Nat.le_of_ble_eq_true rfl) dX4_hold_34 (fun r σ3 h3 => ?_)
          obtain ⟨h3, rfl⟩ := h3
          cases hft : ftb n U V (fun j => S j || decide (j = i)) k none with
          | true =>
            rw [hft, if_pos rfl] at h3
            subst h3
            rw [if_pos ⟨hpi, hft⟩] at hw
            refine gi_if_eq hC 52 dX4_hold_37 (by decide) (fun h4 => ?_) (fun h4 => ?_)
            · exact absurd h4 (by decide)
            ·
              refine gi_aldn hC dX4_hold_40 rfl ?_
              refine gi_dup hC dX4_hold_41 rfl ?_
              refine gf_M_heldBits hC gw_319 dX4_hold_42 ?_
              refine gi_const hC (v := 1) dX4_hold_45 (by decide) ?_
              refine gi_ildn hC dX4_hold_46 rfl ?_
              refine gi_ishl hC dX4_hold_47 ?_
              refine gi_ior hC dX4_hold_48 ?_
              refine pf_M_heldBits hC gw_319 dX4_hold_49 ?_
              exact NX _ _ (gm_fr_tr hfr (gm_fr_sc ⟨rfl, rfl⟩)) (by rw [gm_sc_1]; exact bm_or hb (bm_pow (by omega))) hw
          | false =>
            rw [hft, if_neg Bool.false_ne_true] at h3
            subst h3
            rw [if_neg (fun z => by rw [hft] at z; cases z.2)] at hw
            refine gi_if_eq hC 52 dX4_hold_37 (by decide) (fun h4 => ?_) (fun h4 => ?_)
            · exact NX σ3 S hfr hb hw
            · exact absurd rfl h4
  refine gi_aldn hC dX4_hold_0 rfl ?_
  refine gi_const hC (v := 0) dX4_hold_1 (by decide) ?_
  refine pf_M_heldBits hC gw_319 dX4_hold_2 ?_
  refine gi_const hC (v := 0) dX4_hold_5 (by decide) ?_
  refine gi_istn_2 hC dX4_hold_6 (by decide) ?_
  exact L 24 0 (fun _ => false) _ rfl (gm_fr_sc ⟨rfl, rfl⟩) (by rw [gm_sc_1]; exact bm_0) hZ
set_option maxHeartbeats 4000000 in
set_option maxRecDepth 100000 in
theorem c_X4_heldMany (l : Launch) (E : gm_E) (σ : gm_S) (H : Nat → Bool) (hb : bm (σ.1 5 3) H) : gm_MI l E yX4_heldMany (.code yX4_heldMany cX4_heldMany 3 (some .int) :: gw_T) { frames := 0, cells := 0, slots := 0, locals := 0 } [.ref (E.2.2 5)] σ (fun r σ2 => r = nI (cnt_lp H 24 0 0) ∧ σ2 = σ) := by
  refine gm_enterI RX4 (by decide +kernel) rfl rfl (Nat.le_of_ble_eq_true rfl) (gm_c1_ok rfl) ?_
  intro X hC hR
  show gm_G X E 3 0 [some (.ref (E.2.2 5)), none, none] [] σ
  obtain ⟨Z, hZ⟩ : ∃ Z, Z = cnt_lp H 24 0 0 := ⟨_, rfl⟩
  rw [← hZ] at hR
  have L : ∀ n i c, i + n = 24 → Z = cnt_lp H n i c → gm_G X E 3 4 [some (.ref (E.2.2 5)), some (.int (nI c)), some (.int (nI i))] [] σ := by
    intro n
    induction n with
    | zero =>
      intro i c hi0 hw
      have hi0 : i = 24 := by omega
      subst hi0
      rw [cnt_lp] at hw
      subst hw
      refine gi_ildn hC dX4_heldMany_4 rfl ?_
      refine gi_bipush hC (v := 24) dX4_heldMany_5 (by decide) ?_
      refine gi_icmp_ge hC 27 dX4_heldMany_7 (by decide) (fun h1 => ?_) (fun h1 => ?_)
      ·
        refine gi_ildn hC dX4_heldMany_27 rfl ?_
        exact hR _ _ _ _ rfl ⟨rfl, rfl⟩ dX4_heldMany_28
      · exact absurd (Int32.le_refl _) h1
    | succ n ih =>
      intro i c hi0 hw
      rw [cnt_lp] at hw
      refine gi_ildn hC dX4_heldMany_4 rfl ?_
      refine gi_bipush hC (v := 24) dX4_heldMany_5 (by decide) ?_
      refine gi_icmp_ge hC 27 dX4_heldMany_7 (by decide) (fun h1 => ?_) (fun h1 => ?_)
      · exact absurd h1 (nI_ge (a := i) (b := 24) (by omega) (by omega))
      ·
        refine gi_ildn hC dX4_heldMany_10 rfl ?_
        refine gi_aldn hC dX4_heldMany_11 rfl ?_
        refine gf_M_heldBits hC gw_319 dX4_heldMany_12 ?_
        refine gi_ildn hC dX4_heldMany_15 rfl ?_
        refine gi_ishr hC dX4_heldMany_16 ?_
        refine gi_const hC (v := 1) dX4_heldMany_17 (by decide) ?_
        refine gi_iand hC dX4_heldMany_18 ?_
        rw [bm_tst hb (by omega)]
        by_cases hq : H i = true
        ·
          rw [if_pos hq] at hw ⊢
          refine gi_iadd hC dX4_heldMany_19 ?_
          rw [nI_1]
          refine gi_istn_1 hC dX4_heldMany_20 (by decide) ?_
          refine gi_iinc_2 hC dX4_heldMany_21 (nI_1 i) (by decide) ?_
          refine gi_goto hC 4 dX4_heldMany_24 (by decide) ?_
          exact ih (i + 1) (c + 1) (by omega) hw
        ·
          rw [if_neg hq] at hw ⊢
          refine gi_iadd hC dX4_heldMany_19 ?_
          rw [Int32.add_zero]
          refine gi_istn_1 hC dX4_heldMany_20 (by decide) ?_
          refine gi_iinc_2 hC dX4_heldMany_21 (nI_1 i) (by decide) ?_
          refine gi_goto hC 4 dX4_heldMany_24 (by decide) ?_
          exact ih (i + 1) c (by omega) hw
  refine gi_const hC (v := 0) dX4_heldMany_0 (by decide) ?_
  refine gi_istn_1 hC dX4_heldMany_1 (by decide) ?_
  refine gi_const hC (v := 0) dX4_heldMany_2 (by decide) ?_
  refine gi_istn_2 hC dX4_heldMany_3 (by decide) ?_
  exact L 24 0 0 rfl hZ
set_option maxHeartbeats 4000000 in
set_option maxRecDepth 100000 in
theorem c_X4_most (l : Launch) (E : gm_E) (σ : gm_S) (n : Nat) (ps : Nat → Bool) (U V : Nat → Nat) (hM : mG σ n ps U V) (k : Int32) : gm_MI l E yX4_most (.code yX4_most cX4_most 2 (some .int) :: gw_T) { frames := 3, cells := 0, slots := 0, locals := 74 } [.ref (E.2.2 5), .int k] σ (fun r σ2 => hFR σ σ2 ∧ ((r = -2 ∧ ¬ ∃ j, j < 7 ∧ k = nI j) ∨ ∃ kk, kk < 7 ∧ k = nI kk ∧ r = nI (cnt_lp (hdd n U V ps kk) 24 0 0))) := by
  refine gm_enterI RX4 (by decide +kernel) rfl rfl (Nat.le_of_ble_eq_true rfl) (gm_c1_ok rfl) ?_
  intro X hC hR
  show gm_G X E 2 0 [some (.ref (E.2.2 5)), some (.int k)] [] σ
  refine gi_ildn hC dX4_most_0 rfl ?_
  refine gk_SI (n := 1) hC (fun l => c_X4_isK l E σ k) (gw_S gw_382 gw_383 gw_28 gw_384) rfl ⟨rfl, rfl⟩ rfl (by decide +kernel) ⟨by decide, by decide⟩ (Nat.le_of_ble_eq_true rfl) dX4_most_1 (fun r σ1 h1 => ?_)
  obtain ⟨h1, rfl⟩ := h1
  refine gi_if_ne hC 10 dX4_most_4 (by decide) (fun h2 => ?_) (fun h2 => ?_)
  ·
    obtain ⟨kk, hk, rfl⟩ : ∃ j, j < 7 ∧ k = nI j := by
      rcases h1 with ⟨-, z⟩ | ⟨z, -⟩
      · exact z
      · exact absurd z h2
    refine gi_aldn hC dX4_most_10 rfl ?_
    refine gi_ildn hC dX4_most_11 rfl ?_
    refine gk_VV (n := 1) hC (fun l => c_X4_hold l E σ1 n ps U V hM kk hk) (gm_o4 E) rfl (gw_V gw_385 gw_387 gw_11 gw_28 gw_388) rfl ⟨rfl, rfl⟩ rfl (by decide +kernel) ⟨by decide, by decide⟩ (Nat.le_of_ble_eq_true rfl) dX4_most_12 (fun σ2 h3 => ?_)
    refine gi_aldn hC dX4_most_15 rfl ?_
    refine gk_VI (n := 0) hC (fun l => c_X4_heldMany l E σ2 _ h3.2) (gm_o4 E) rfl (gw_V gw_400 gw_402 gw_14 gw_28 gw_403) rfl ⟨rfl, rfl⟩ rfl (by decide +kernel) ⟨by decide, by decide⟩ (Nat.le_of_ble_eq_true rfl) dX4_most_16 (fun r2 σ3 h4 => ?_)
    obtain ⟨rfl, rfl⟩ := h4
    exact hR _ _ _ _ rfl ⟨h3.1, Or.inr ⟨kk, hk, rfl, rfl⟩⟩ dX4_most_19
  ·
    have hn : ¬ ∃ j, j < 7 ∧ k = nI j := by
      rcases h1 with ⟨z, -⟩ | ⟨-, z⟩
      · rw [z] at h2; exact absurd h2 (by decide)
      · exact z
    refine gi_bipush hC (v := -2) dX4_most_7 (by decide) ?_
    exact hR _ _ _ _ rfl ⟨gm_fr_rf, Or.inl ⟨rfl, hn⟩⟩ dX4_most_9
set_option maxHeartbeats 4000000 in
set_option maxRecDepth 100000 in
theorem c_X4_held (l : Launch) (E : gm_E) (σ : gm_S) (n : Nat) (ps : Nat → Bool) (U V : Nat → Nat) (hM : mG σ n ps U V) (k a : Int32) : gm_MI l E yX4_held (.code yX4_held cX4_held 3 (some .int) :: gw_T) { frames := 3, cells := 0, slots := 0, locals := 74 } [.ref (E.2.2 5), .int k, .int a] σ (fun r σ2 => hFR σ σ2 ∧ ((r = -2 ∧ ¬ ∃ j, j < 7 ∧ k = nI j) ∨ ∃ kk, kk < 7 ∧ k = nI kk ∧ ((r = -1 ∧ ¬ ∃ e, e < 24 ∧ a = nI e ∧ ps e = true) ∨ ∃ e, e < 24 ∧ a = nI e ∧ ps e = true ∧ r = if hdd n U V ps kk e = true then 1 else 0))) := by
  refine gm_enterI RX4 (by decide +kernel) rfl rfl (Nat.le_of_ble_eq_true rfl) (gm_c1_ok rfl) ?_
  intro X hC hR
  show gm_G X E 3 0 [some (.ref (E.2.2 5)), some (.int k), some (.int a)] [] σ
  obtain ⟨g1, g2, g3, g4, g5, g6, g7⟩ := id hM
  refine gi_ildn hC dX4_held_0 rfl ?_
  refine gk_SI (n := 1) hC (fun l => c_X4_isK l E σ k) (gw_S gw_382 gw_383 gw_28 gw_384) rfl ⟨rfl, rfl⟩ rfl (by decide +kernel) ⟨by decide, by decide⟩ (Nat.le_of_ble_eq_true rfl) dX4_held_1 (fun r σ1 h1 => ?_)
  obtain ⟨h1, rfl⟩ := h1
  refine gi_if_ne hC 10 dX4_held_4 (by decide) (fun h2 => ?_) (fun h2 => ?_)
  ·
    obtain ⟨kk, hk, rfl⟩ : ∃ j, j < 7 ∧ k = nI j := by
      rcases h1 with ⟨-, z⟩ | ⟨z, -⟩
      · exact z
      · exact absurd z h2
    refine gi_aldn hC dX4_held_10 rfl ?_
    refine gi_ildn hC dX4_held_11 rfl ?_
    refine gk_VI (n := 1) hC (fun l => c_X4_has l E σ1 ps g4 a) (gm_o4 E) rfl (gw_V gw_374 gw_376 gw_10 gw_28 gw_377) rfl ⟨rfl, rfl⟩ rfl (by decide +kernel) ⟨by decide, by decide⟩ (Nat.le_of_ble_eq_true rfl) dX4_held_12 (fun r3 σ3 h3 => ?_)
    obtain ⟨h3, rfl⟩ := h3
    refine gi_if_ne hC 20 dX4_held_15 (by decide) (fun h4 => ?_) (fun h4 => ?_)
    ·
      obtain ⟨e, he, rfl, hpe⟩ : ∃ j, j < 24 ∧ a = nI j ∧ ps j = true := by
        rcases h3 with ⟨-, z⟩ | ⟨z, -⟩
        · exact z
        · exact absurd z h4
      refine gi_aldn hC dX4_held_20 rfl ?_
      refine gi_ildn hC dX4_held_21 rfl ?_
      refine gk_VV (n := 1) hC (fun l => c_X4_hold l E σ3 n ps U V hM kk hk) (gm_o4 E) rfl (gw_V gw_385 gw_387 gw_11 gw_28 gw_388) rfl ⟨rfl, rfl⟩ rfl (by decide +kernel) ⟨by decide, by decide⟩ (Nat.le_of_ble_eq_true rfl) dX4_held_22 (fun σ5 h5 => ?_)
      refine gi_aldn hC dX4_held_25 rfl ?_
      refine gf_M_heldBits hC gw_319 dX4_held_26 ?_
      refine gi_ildn hC dX4_held_29 rfl ?_
      refine gi_ishr hC dX4_held_30 ?_
      refine gi_const hC (v := 1) dX4_held_31 (by decide) ?_
      refine gi_iand hC dX4_held_32 ?_
      rw [bm_tst h5.2 (by omega)]
      exact hR _ _ _ _ rfl ⟨h5.1, Or.inr ⟨kk, hk, rfl, Or.inr ⟨e, he, rfl, hpe, rfl⟩⟩⟩ dX4_held_33
    ·
      have hna : ¬ ∃ j, j < 24 ∧ a = nI j ∧ ps j = true := by
        rcases h3 with ⟨z, -⟩ | ⟨-, z⟩
        · rw [z] at h4; exact absurd h4 (by decide)
        · exact z
      refine gi_const hC (v := -1) dX4_held_18 (by decide) ?_
      exact hR _ _ _ _ rfl ⟨gm_fr_rf, Or.inr ⟨kk, hk, rfl, Or.inl ⟨rfl, hna⟩⟩⟩ dX4_held_19
  ·
    have hn : ¬ ∃ j, j < 7 ∧ k = nI j := by
      rcases h1 with ⟨z, -⟩ | ⟨-, z⟩
      · rw [z] at h2; exact absurd h2 (by decide)
      · exact z
    refine gi_bipush hC (v := -2) dX4_held_7 (by decide) ?_
    exact hR _ _ _ _ rfl ⟨gm_fr_rf, Or.inl ⟨rfl, hn⟩⟩ dX4_held_9
set_option maxHeartbeats 4000000 in
set_option maxRecDepth 100000 in
theorem c_X4_begin (l : Launch) (E : gm_E) (σ : gm_S) (n : Nat) (ps : Nat → Bool) (U V : Nat → Nat) (hM : mG σ n ps U V) (a : Int32) : gm_MI l E yX4_begin (.code yX4_begin cX4_begin 4 (some .int) :: gw_T) { frames := 1, cells := 0, slots := 0, locals := 22 } [.ref (E.2.2 5), .int a] σ (fun r σ2 => mFR σ σ2 ∧ ((r = -2 ∧ (¬ ∃ m, 1 ≤ m ∧ m ≤ 10 ∧ a = nI m) ∧ mG σ2 n ps U V) ∨ ∃ m, 1 ≤ m ∧ m ≤ 10 ∧ a = nI m ∧ r = nI (cnt_lp ps 24 0 0) ∧ mG σ2 m (fun _ => false) U V)) := by
  refine gm_enterI RX4 (by decide +kernel) rfl rfl (Nat.le_of_ble_eq_true rfl) (gm_c1_ok rfl) ?_
  intro X hC hR
  show gm_G X E 4 0 [some (.ref (E.2.2 5)), some (.int a), none, none] [] σ
  obtain ⟨g1, g2, g3, g4, g5, g6, g7⟩ := id hM
  refine gi_ildn hC dX4_begin_0 rfl ?_
  refine gi_const hC (v := 1) dX4_begin_1 (by decide) ?_
  refine gi_bipush hC (v := 10) dX4_begin_2 (by decide) ?_
  refine gk_SI (n := 3) hC (fun l => c_X4_in l E σ a 1 10) (gw_S gw_355 gw_356 gw_28 gw_357) rfl ⟨rfl, rfl⟩ rfl (by decide +kernel) ⟨by decide, by decide⟩ (Nat.le_of_ble_eq_true rfl) dX4_begin_4 (fun r σ1 h1 => ?_)
  obtain ⟨h1, rfl⟩ := h1
  rw [show (1 : Int32) = nI 1 from rfl, show (10 : Int32) = nI 10 from rfl, nI_inn (by omega) (by omega)] at h1
  refine gi_if_ne hC 13 dX4_begin_7 (by decide) (fun h2 => ?_) (fun h2 => ?_)
  ·
    obtain ⟨m, m1, m2, rfl⟩ : ∃ j, 1 ≤ j ∧ j ≤ 10 ∧ a = nI j := by
      rcases h1 with ⟨-, z⟩ | ⟨z, -⟩
      · exact z
      · exact absurd z h2
    refine gi_aldn hC dX4_begin_13 rfl ?_
    refine gk_VI (n := 0) hC (fun l => c_X4_many l E σ1 ps g4) (gm_o4 E) rfl (gw_V gw_358 gw_360 gw_8 gw_28 gw_361) rfl ⟨rfl, rfl⟩ rfl (by decide +kernel) ⟨by decide, by decide⟩ (Nat.le_of_ble_eq_true rfl) dX4_begin_14 (fun r2 σ2 h3 => ?_)
    obtain ⟨rfl, rfl⟩ := h3
    have L : ∀ c i (σ3 : gm_S), i + c = 24 → mFR σ2 σ3 → σ3.1 5 0 = nI m → (∀ j, j < i → σ3.2 7 j = 0) → mE σ3 U V → gm_G X E 4 25 [some (.ref (E.2.2 5)), some (.int (nI m)), some (.int (nI (cnt_lp ps 24 0 0))), some (.int (nI i))] [] σ3 := by
      intro c
      induction c with
      | zero =>
        intro i σ3 hi0 hfr hn3 hz hE
        have hi0 : i = 24 := by omega
        subst hi0
        refine gi_ildn hC dX4_begin_25 rfl ?_
        refine gi_bipush hC (v := 24) dX4_begin_26 (by decide) ?_
        refine gi_icmp_ge hC 44 dX4_begin_28 (by decide) (fun h4 => ?_) (fun h4 => ?_)
        ·
          refine gi_ildn hC dX4_begin_44 rfl ?_
          exact hR _ _ _ _ rfl ⟨hfr, Or.inr ⟨m, m1, m2, rfl, rfl, m1, m2, hn3, fun e he => (by rw [hz e he]; rfl), hE, fun _ _ => rfl, fun e he => by cases he⟩⟩ dX4_begin_45
        · exact absurd (Int32.le_refl _) h4
      | succ c ih =>
        intro i σ3 hi0 hfr hn3 hz hE
        refine gi_ildn hC dX4_begin_25 rfl ?_
        refine gi_bipush hC (v := 24) dX4_begin_26 (by decide) ?_
        refine gi_icmp_ge hC 44 dX4_begin_28 (by decide) (fun h4 => ?_) (fun h4 => ?_)
        · exact absurd h4 (nI_ge (a := i) (b := 24) (by omega) (by omega))
        ·
          refine gi_aldn hC dX4_begin_31 rfl ?_
          refine gf_M_isEdge hC gw_318 dX4_begin_32 ?_
          refine gi_ildn hC dX4_begin_35 rfl ?_
          refine gi_const hC (v := 0) dX4_begin_36 (by decide) ?_
          refine gi_zast hC (gm_i7 E) (j := i) (by omega) rfl (Or.inl rfl) (by decide) dX4_begin_37 ?_
          refine gi_iinc_3 hC dX4_begin_38 (nI_1 i) (by decide) ?_
          refine gi_goto hC 25 dX4_begin_41 (by decide) ?_
          refine ih (i + 1) _ (by omega) (gm_fr_tr hfr (gm_fr_ar (by omega))) hn3 (fun j hj => ?_) (fun e he => ?_)
          · by_cases hji : j = i
            · subst hji; exact gm_ar_2 _ _ _ _
            · rw [gm_ar_n _ _ (fun z => hji z.2)]; exact hz j (by omega)
          · rw [gm_ar_r _ _ (by omega)]; exact hE e he
    refine gi_istn_2 hC dX4_begin_17 (by decide) ?_
    refine gi_aldn hC dX4_begin_18 rfl ?_
    refine gi_ildn hC dX4_begin_19 rfl ?_
    refine pf_M_n hC gw_316 dX4_begin_20 ?_
    refine gi_const hC (v := 0) dX4_begin_23 (by decide) ?_
    refine gi_istn_3 hC dX4_begin_24 (by decide) ?_
    exact L 24 0 _ rfl (gm_fr_sc rfl) (gm_sc_1 _ _ _ _) (fun j hj => absurd hj (Nat.not_lt_zero j)) g5
  ·
    have hn : ¬ ∃ j, 1 ≤ j ∧ j ≤ 10 ∧ a = nI j := by
      rcases h1 with ⟨z, -⟩ | ⟨-, z⟩
      · rw [z] at h2; exact absurd h2 (by decide)
      · exact z
    refine gi_bipush hC (v := -2) dX4_begin_10 (by decide) ?_
    exact hR _ _ _ _ rfl ⟨mFR_rf, Or.inl ⟨rfl, hn, hM⟩⟩ dX4_begin_12
set_option maxHeartbeats 4000000 in
set_option maxRecDepth 100000 in
theorem c_X4_cut (l : Launch) (E : gm_E) (σ : gm_S) (n : Nat) (ps : Nat → Bool) (U V : Nat → Nat) (hM : mG σ n ps U V) (a : Int32) : gm_MI l E yX4_cut (.code yX4_cut cX4_cut 2 (some .int) :: gw_T) { frames := 2, cells := 0, slots := 0, locals := 43 } [.ref (E.2.2 5), .int a] σ (fun r σ2 => mFR σ σ2 ∧ ((r = -1 ∧ (¬ ∃ e, e < 24 ∧ a = nI e ∧ ps e = true) ∧ mG σ2 n ps U V) ∨ ∃ e, e < 24 ∧ a = nI e ∧ ps e = true ∧ r = nI (U e * 10 + V e) ∧ mG σ2 n (fun d => ps d && !decide (d = e)) U V)) := by
  refine gm_enterI RX4 (by decide +kernel) rfl rfl (Nat.le_of_ble_eq_true rfl) (gm_c1_ok rfl) ?_
  intro X hC hR
  show gm_G X E 2 0 [some (.ref (E.2.2 5)), some (.int a)] [] σ
  obtain ⟨g1, g2, g3, g4, g5, g6, g7⟩ := id hM
  refine gi_aldn hC dX4_cut_0 rfl ?_
  refine gi_ildn hC dX4_cut_1 rfl ?_
  refine gk_VI (n := 1) hC (fun l => c_X4_has l E σ ps g4 a) (gm_o4 E) rfl (gw_V gw_374 gw_376 gw_10 gw_28 gw_377) rfl ⟨rfl, rfl⟩ rfl (by decide +kernel) ⟨by decide, by decide⟩ (Nat.le_of_ble_eq_true rfl) dX4_cut_2 (fun r3 σ3 h3 => ?_)
  obtain ⟨h3, rfl⟩ := h3
  refine gi_if_ne hC 10 dX4_cut_5 (by decide) (fun h4 => ?_) (fun h4 => ?_)
  ·
    obtain ⟨e, he, rfl, hpe⟩ : ∃ j, j < 24 ∧ a = nI j ∧ ps j = true := by
      rcases h3 with ⟨-, z⟩ | ⟨z, -⟩
      · exact z
      · exact absurd z h4
    obtain ⟨e1, e2, e3, e4⟩ := g5 e he
    refine gi_aldn hC dX4_cut_10 rfl ?_
    refine gf_M_isEdge hC gw_318 dX4_cut_11 ?_
    refine gi_ildn hC dX4_cut_14 rfl ?_
    refine gi_const hC (v := 0) dX4_cut_15 (by decide) ?_
    refine gi_zast hC (gm_i7 E) he rfl (Or.inl rfl) (by decide) dX4_cut_16 ?_
    refine gi_bipush hC (v := 10) dX4_cut_17 (by decide) ?_
    refine gi_aldn hC dX4_cut_19 rfl ?_
    refine gf_M_ends hC gw_317 dX4_cut_20 ?_
    refine gi_const hC (v := 2) dX4_cut_23 (by decide) ?_
    refine gi_ildn hC dX4_cut_24 rfl ?_
    refine gi_imul hC dX4_cut_25 ?_
    refine gi_iald hC (gm_i6 E) (j := 2 * e) (by omega) (by rw [show (2 : Int32) = nI 2 from rfl, pk_mul]) (by first | decide | omega) dX4_cut_26 ?_
    rw [gm_ar_r (y := 6) _ _ (by decide), e1]
    refine gi_imul hC dX4_cut_27 ?_
    refine gi_aldn hC dX4_cut_28 rfl ?_
    refine gf_M_ends hC gw_317 dX4_cut_29 ?_
    refine gi_const hC (v := 2) dX4_cut_32 (by decide) ?_
    refine gi_ildn hC dX4_cut_33 rfl ?_
    refine gi_imul hC dX4_cut_34 ?_
    refine gi_const hC (v := 1) dX4_cut_35 (by decide) ?_
    refine gi_iadd hC dX4_cut_36 ?_
    refine gi_iald hC (gm_i6 E) (j := 2 * e + 1) (by omega) (by rw [show (2 : Int32) = nI 2 from rfl, pk_mul, nI_1]) (by first | decide | omega) dX4_cut_37 ?_
    rw [gm_ar_r (y := 6) _ _ (by decide), e2]
    refine gi_iadd hC dX4_cut_38 ?_
    rw [show 10 * nI (U e) + nI (V e) = nI (U e * 10 + V e) by rw [show (10 : Int32) = nI 10 from rfl, pk_mul, nI_add, Nat.mul_comm]]
    refine hR _ _ _ _ rfl ⟨gm_fr_ar (by omega), Or.inr ⟨e, he, rfl, hpe, rfl, g1, g2, g3, fun d hd => ?_, fun d hd => ?_, fun d hd => (by show (ps d && !decide (d = e)) = false; rw [g6 d hd]; rfl), fun d hd => g7 d (by simp at hd; exact hd.1)⟩⟩ dX4_cut_39
    · by_cases hde : d = e
      · subst hde; rw [gm_ar_2]; simp
      · rw [gm_ar_n _ _ (fun z => hde z.2), g4 d hd]; simp [hde]
    · rw [gm_ar_r _ _ (by omega)]; exact g5 d hd
  ·
    have hna : ¬ ∃ j, j < 24 ∧ a = nI j ∧ ps j = true := by
      rcases h3 with ⟨z, -⟩ | ⟨-, z⟩
      · rw [z] at h4; exact absurd h4 (by decide)
      · exact z
    refine gi_const hC (v := -1) dX4_cut_8 (by decide) ?_
    exact hR _ _ _ _ rfl ⟨mFR_rf, Or.inl ⟨rfl, hna, hM⟩⟩ dX4_cut_9
set_option maxHeartbeats 4000000 in
set_option maxRecDepth 100000 in
theorem c_X4_whyBits (l : Launch) (E : gm_E) (σ : gm_S) (n : Nat) (ps : Nat → Bool) (U V : Nat → Nat) (hM : mG σ n ps U V) (H : Nat → Bool) (hb : bm (σ.1 5 3) H) (k : Nat) (hk : k < 7) (e : Nat) (he : e < 24) : gm_MI l E yX4_whyBits (.code yX4_whyBits cX4_whyBits 5 (some .int) :: gw_T) { frames := 2, cells := 0, slots := 0, locals := 52 } [.ref (E.2.2 5), .int (nI k), .int (nI e)] σ (fun r σ2 => bm r (wyb n U V H k e) ∧ σ2 = σ) := by
  refine gm_enterI RX4 (by decide +kernel) rfl rfl (Nat.le_of_ble_eq_true rfl) (gm_c1_ok rfl) ?_
  intro X hC hR
  show gm_G X E 5 0 [some (.ref (E.2.2 5)), some (.int (nI k)), some (.int (nI e)), none, none] [] σ
  obtain ⟨g1, g2, g3, g4, g5, g6, g7⟩ := id hM
  obtain ⟨Z, hZ⟩ : ∃ Z, Z = wyb n U V H k e := ⟨_, rfl⟩
  rw [← hZ] at hR
  have L : ∀ m f (y : Int32) T, f + m = 24 → bm y T → Z = wb_lp n U V H k e m f T → gm_G X E 5 7 [some (.ref (E.2.2 5)), some (.int (nI k)), some (.int (nI e)), some (.int y), some (.int (nI f))] [] σ := by
    intro m
    induction m with
    | zero =>
      intro f y T hi0 hy hw
      have hi0 : f = 24 := by omega
      subst hi0
      rw [wb_lp] at hw
      subst hw
      refine gi_ild hC dX4_whyBits_7 rfl ?_
      refine gi_bipush hC (v := 24) dX4_whyBits_9 (by decide) ?_
      refine gi_icmp_ge hC 65 dX4_whyBits_11 (by decide) (fun h1 => ?_) (fun h1 => ?_)
      ·
        refine gi_ildn hC dX4_whyBits_65 rfl ?_
        exact hR _ _ _ _ rfl ⟨hy, rfl⟩ dX4_whyBits_66
      · exact absurd (Int32.le_refl _) h1
    | succ m ih =>
      intro f y T hi0 hy hw
      rw [wb_lp] at hw
      refine gi_ild hC dX4_whyBits_7 rfl ?_
      refine gi_bipush hC (v := 24) dX4_whyBits_9 (by decide) ?_
      refine gi_icmp_ge hC 65 dX4_whyBits_11 (by decide) (fun h1 => ?_) (fun h1 => ?_)
      · exact absurd h1 (nI_ge (a := f) (b := 24) (by omega) (by omega))
      ·
        refine gi_aldn hC dX4_whyBits_14 rfl ?_
        refine gf_M_heldBits hC gw_319 dX4_whyBits_15 ?_
        refine gi_ild hC dX4_whyBits_18 rfl ?_
        refine gi_ishr hC dX4_whyBits_20 ?_
        refine gi_const hC (v := 1) dX4_whyBits_21 (by decide) ?_
        refine gi_iand hC dX4_whyBits_22 ?_
        refine gi_const hC (v := 1) dX4_whyBits_23 (by decide) ?_
        rw [bm_tst hb (by omega)]
        refine gi_icmp_ne hC 59 dX4_whyBits_24 (by decide) (fun h2 => ?_) (fun h2 => ?_)
        ·
          rw [if_neg (fun z => h2 (by rw [if_pos z.1]))] at hw
          refine gi_iinc_4 hC dX4_whyBits_59 (nI_1 f) (by decide) ?_
          refine gi_goto hC 7 dX4_whyBits_62 (by decide) ?_
          exact ih (f + 1) y T (by omega) hy hw
        ·
          have hHf : H f = true := by
            cases hq : H f
            · rw [hq] at h2; exact absurd h2 (by decide)
            · rfl
          refine gi_aldn hC dX4_whyBits_27 rfl ?_
          refine gi_aldn hC dX4_whyBits_28 rfl ?_
          refine gf_M_heldBits hC gw_319 dX4_whyBits_29 ?_
          refine gi_const hC (v := 1) dX4_whyBits_32 (by decide) ?_
          refine gi_ild hC dX4_whyBits_33 rfl ?_
          refine gi_ishl hC dX4_whyBits_35 ?_
          refine gi_const hC (v := -1) dX4_whyBits_36 (by decide) ?_
          refine gi_ixor hC dX4_whyBits_37 ?_
          refine gi_iand hC dX4_whyBits_38 ?_
          refine gi_const hC (v := 1) dX4_whyBits_39 (by decide) ?_
          refine gi_ildn hC dX4_whyBits_40 rfl ?_
          refine gi_ishl hC dX4_whyBits_41 ?_
          refine gi_ior hC dX4_whyBits_42 ?_
          refine gi_ildn hC dX4_whyBits_43 rfl ?_
          refine gi_const hC (v := -1) dX4_whyBits_44 (by decide) ?_
          refine gi_const hC (v := -1) dX4_whyBits_45 (by decide) ?_
          refine gk_VI (n := 4) hC (fun l => c_X4_fits l E σ n g1 g2 g3 U V g5 _ (fun i => (H i && !decide (i = f)) || decide (i = e)) (bm_or (bm_and hb (bm_not (bm_pow (by omega)))) (bm_pow (by omega))) k hk none ab_none) (gm_o4 E) rfl (gw_V gw_389 gw_391 gw_12 gw_28 gw_392) rfl ⟨rfl, rfl⟩ rfl (by decide +kernel) ⟨by decide, by decide⟩ (Nat.le_of_ble_eq_true rfl) dX4_whyBits_46 (fun r σ3 h3 => ?_)
          obtain ⟨h3, rfl⟩ := h3
          cases hft : ftb n U V (fun i => (H i && !decide (i = f)) || decide (i = e)) k none with
          | true =>
            rw [hft, if_pos rfl] at h3
            subst h3
            rw [if_pos ⟨hHf, hft⟩] at hw
            refine gi_if_eq hC 59 dX4_whyBits_49 (by decide) (fun h4 => ?_) (fun h4 => ?_)
            · exact absurd h4 (by decide)
            ·
              refine gi_ildn hC dX4_whyBits_52 rfl ?_
              refine gi_const hC (v := 1) dX4_whyBits_53 (by decide) ?_
              refine gi_ild hC dX4_whyBits_54 rfl ?_
              refine gi_ishl hC dX4_whyBits_56 ?_
              refine gi_ior hC dX4_whyBits_57 ?_
              refine gi_istn_3 hC dX4_whyBits_58 (by decide) ?_
              refine gi_iinc_4 hC dX4_whyBits_59 (nI_1 f) (by decide) ?_
              refine gi_goto hC 7 dX4_whyBits_62 (by decide) ?_
              exact ih (f + 1) _ _ (by omega) (bm_or hy (bm_pow (by omega))) hw
          | false =>
            rw [hft, if_neg Bool.false_ne_true] at h3
            subst h3
            rw [if_neg (fun z => by rw [hft] at z; cases z.2)] at hw
            refine gi_if_eq hC 59 dX4_whyBits_49 (by decide) (fun h4 => ?_) (fun h4 => ?_)
            ·
              refine gi_iinc_4 hC dX4_whyBits_59 (nI_1 f) (by decide) ?_
              refine gi_goto hC 7 dX4_whyBits_62 (by decide) ?_
              exact ih (f + 1) y T (by omega) hy hw
            · exact absurd rfl h4
  refine gi_const hC (v := 1) dX4_whyBits_0 (by decide) ?_
  refine gi_ildn hC dX4_whyBits_1 rfl ?_
  refine gi_ishl hC dX4_whyBits_2 ?_
  refine gi_istn_3 hC dX4_whyBits_3 (by decide) ?_
  refine gi_const hC (v := 0) dX4_whyBits_4 (by decide) ?_
  refine gi_ist_4 hC dX4_whyBits_5 (by decide) ?_
  exact L 24 0 _ (fun i => decide (i = e)) rfl (bm_pow (by omega)) hZ
set_option maxHeartbeats 4000000 in
set_option maxRecDepth 100000 in
theorem c_X4_isTight (l : Launch) (E : gm_E) (σ : gm_S) (n : Nat) (ps : Nat → Bool) (U V : Nat → Nat) (hM : mG σ n ps U V) (H : Nat → Bool) (hb : bm (σ.1 5 3) H) (k : Nat) (hk : k < 7) (a b : Nat) (ha : a < 10) (hb2 : b < 10) : gm_MI l E yX4_isTight (.code yX4_isTight cX4_isTight 4 (some .boolean) :: gw_T) { frames := 2, cells := 0, slots := 0, locals := 52 } [.ref (E.2.2 5), .int (nI k), .int (nI a), .int (nI b)] σ (fun r σ2 => r = (if tgt n U V H k a b = true then 1 else 0) ∧ σ2 = σ) := by
  refine gm_enterI RX4 (by decide +kernel) rfl rfl (Nat.le_of_ble_eq_true rfl) (gm_c1_ok rfl) ?_
  intro X hC hR
  show gm_G X E 4 0 [some (.ref (E.2.2 5)), some (.int (nI k)), some (.int (nI a)), some (.int (nI b))] [] σ
  obtain ⟨g1, g2, g3, g4, g5, g6, g7⟩ := id hM
  refine gi_ildn hC dX4_isTight_0 rfl ?_
  refine gi_ildn hC dX4_isTight_1 rfl ?_
  refine gi_icmp_eq hC 19 dX4_isTight_2 (by decide) (fun h1 => ?_) (fun h1 => ?_)
  ·
    have hab : a = b := (nI_eq (by omega) (by omega)).mp h1
    refine gi_const hC (v := 1) dX4_isTight_19 (by decide) ?_
    refine gi_goto hC 24 dX4_isTight_20 (by decide) ?_
    exact hR _ _ _ _ (by decide +kernel) ⟨by rw [if_pos (by simp [tgt, hab])], rfl⟩ dX4_isTight_24
  ·
    have hab : a ≠ b := fun z => h1 (by rw [z])
    refine gi_aldn hC dX4_isTight_5 rfl ?_
    refine gi_aldn hC dX4_isTight_6 rfl ?_
    refine gf_M_heldBits hC gw_319 dX4_isTight_7 ?_
    refine gi_ildn hC dX4_isTight_10 rfl ?_
    refine gi_ildn hC dX4_isTight_11 rfl ?_
    refine gi_ildn hC dX4_isTight_12 rfl ?_
    refine gk_VI (n := 4) hC (fun l => c_X4_fits l E σ n g1 g2 g3 U V g5 _ H hb k hk (some (a, b)) (ab_some ha hb2)) (gm_o4 E) rfl (gw_V gw_389 gw_391 gw_12 gw_28 gw_392) rfl ⟨rfl, rfl⟩ rfl (by decide +kernel) ⟨by decide, by decide⟩ (Nat.le_of_ble_eq_true rfl) dX4_isTight_13 (fun r σ3 h3 => ?_)
    obtain ⟨h3, rfl⟩ := h3
    cases hft : ftb n U V H k (some (a, b)) with
    | true =>
      rw [hft, if_pos rfl] at h3
      subst h3
      refine gi_if_ne hC 23 dX4_isTight_16 (by decide) (fun h4 => ?_) (fun h4 => ?_)
      ·
        refine gi_const hC (v := 0) dX4_isTight_23 (by decide) ?_
        exact hR _ _ _ _ (by decide +kernel) ⟨by rw [if_neg (by simp [tgt, hab, hft])], rfl⟩ dX4_isTight_24
      · exact absurd h4 (by decide)
    | false =>
      rw [hft, if_neg Bool.false_ne_true] at h3
      subst h3
      refine gi_if_ne hC 23 dX4_isTight_16 (by decide) (fun h4 => ?_) (fun h4 => ?_)
      · exact absurd rfl h4
      ·
        refine gi_const hC (v := 1) dX4_isTight_19 (by decide) ?_
        refine gi_goto hC 24 dX4_isTight_20 (by decide) ?_
        exact hR _ _ _ _ (by decide +kernel) ⟨by rw [if_pos (by simp [tgt, hft])], rfl⟩ dX4_isTight_24
set_option maxHeartbeats 4000000 in
set_option maxRecDepth 100000 in
theorem c_X4_tight (l : Launch) (E : gm_E) (σ : gm_S) (n : Nat) (ps : Nat → Bool) (U V : Nat → Nat) (hM : mG σ n ps U V) (k a b : Int32) : gm_MI l E yX4_tight (.code yX4_tight cX4_tight 4 (some .int) :: gw_T) { frames := 3, cells := 0, slots := 0, locals := 75 } [.ref (E.2.2 5), .int k, .int a, .int b] σ (fun r σ2 => hFR σ σ2 ∧ ((r = -2 ∧ ¬ ((∃ j, j < 7 ∧ k = nI j) ∧ (∃ i, i < n ∧ a = nI i) ∧ ∃ j, j < n ∧ b = nI j)) ∨ ∃ kk i j, kk < 7 ∧ k = nI kk ∧ i < n ∧ a = nI i ∧ j < n ∧ b = nI j ∧ r = if tgt n U V (hdd n U V ps kk) kk i j = true then 1 else 0)) := by
  refine gm_enterI RX4 (by decide +kernel) rfl rfl (Nat.le_of_ble_eq_true rfl) (gm_c1_ok rfl) ?_
  intro X hC hR
  show gm_G X E 4 0 [some (.ref (E.2.2 5)), some (.int k), some (.int a), some (.int b)] [] σ
  obtain ⟨g1, g2, g3, g4, g5, g6, g7⟩ := id hM
  refine gi_ildn hC dX4_tight_0 rfl ?_
  refine gk_SI (n := 1) hC (fun l => c_X4_isK l E σ k) (gw_S gw_382 gw_383 gw_28 gw_384) rfl ⟨rfl, rfl⟩ rfl (by decide +kernel) ⟨by decide, by decide⟩ (Nat.le_of_ble_eq_true rfl) dX4_tight_1 (fun r σ1 h1 => ?_)
  obtain ⟨h1, rfl⟩ := h1
  refine gi_if_eq hC 23 dX4_tight_4 (by decide) (fun h2 => ?_) (fun h2 => ?_)
  ·
    have hn : ¬ ∃ j, j < 7 ∧ k = nI j := by
      rcases h1 with ⟨z, -⟩ | ⟨-, z⟩
      · rw [z] at h2; exact absurd h2 (by decide)
      · exact z
    refine gi_bipush hC (v := -2) dX4_tight_23 (by decide) ?_
    exact hR _ _ _ _ rfl ⟨gm_fr_rf, Or.inl ⟨rfl, fun z => hn z.1⟩⟩ dX4_tight_25
  ·
    obtain ⟨kk, hk, rfl⟩ : ∃ j, j < 7 ∧ k = nI j := by
      rcases h1 with ⟨-, z⟩ | ⟨z, -⟩
      · exact z
      · exact absurd z h2
    refine gi_aldn hC dX4_tight_7 rfl ?_
    refine gi_ildn hC dX4_tight_8 rfl ?_
    refine gk_VI (n := 1) hC (fun l => c_X4_isVertex l E σ1 n g1 g2 g3 a) (gm_o4 E) rfl (gw_V gw_366 gw_368 gw_9 gw_28 gw_369) rfl ⟨rfl, rfl⟩ rfl (by decide +kernel) ⟨by decide, by decide⟩ (Nat.le_of_ble_eq_true rfl) dX4_tight_9 (fun r3 σ3 h3 => ?_)
    obtain ⟨h3, rfl⟩ := h3
    refine gi_if_eq hC 23 dX4_tight_12 (by decide) (fun h4 => ?_) (fun h4 => ?_)
    ·
      have hn : ¬ ∃ j, j < n ∧ a = nI j := by
        rcases h3 with ⟨z, -⟩ | ⟨-, z⟩
        · rw [z] at h4; exact absurd h4 (by decide)
        · exact z
      refine gi_bipush hC (v := -2) dX4_tight_23 (by decide) ?_
      exact hR _ _ _ _ rfl ⟨gm_fr_rf, Or.inl ⟨rfl, fun z => hn z.2.1⟩⟩ dX4_tight_25
    ·
      obtain ⟨i, hi2, rfl⟩ : ∃ j, j < n ∧ a = nI j := by
        rcases h3 with ⟨-, z⟩ | ⟨z, -⟩
        · exact z
        · exact absurd z h4
      refine gi_aldn hC dX4_tight_15 rfl ?_
      refine gi_ildn hC dX4_tight_16 rfl ?_
      refine gk_VI (n := 1) hC (fun l => c_X4_isVertex l E σ3 n g1 g2 g3 b) (gm_o4 E) rfl (gw_V gw_366 gw_368 gw_9 gw_28 gw_369) rfl ⟨rfl, rfl⟩ rfl (by decide +kernel) ⟨by decide, by decide⟩ (Nat.le_of_ble_eq_true rfl) dX4_tight_17 (fun r5 σ5 h5 => ?_)
      obtain ⟨h5, rfl⟩ := h5
      refine gi_if_ne hC 26 dX4_tight_20 (by decide) (fun h6 => ?_) (fun h6 => ?_)
      ·
        obtain ⟨j, hj, rfl⟩ : ∃ j, j < n ∧ b = nI j := by
          rcases h5 with ⟨-, z⟩ | ⟨z, -⟩
          · exact z
          · exact absurd z h6
        refine gi_aldn hC dX4_tight_26 rfl ?_
        refine gi_ildn hC dX4_tight_27 rfl ?_
        refine gk_VV (n := 1) hC (fun l => c_X4_hold l E σ5 n ps U V hM kk hk) (gm_o4 E) rfl (gw_V gw_385 gw_387 gw_11 gw_28 gw_388) rfl ⟨rfl, rfl⟩ rfl (by decide +kernel) ⟨by decide, by decide⟩ (Nat.le_of_ble_eq_true rfl) dX4_tight_28 (fun σ7 h7 => ?_)
        refine gi_aldn hC dX4_tight_31 rfl ?_
        refine gi_ildn hC dX4_tight_32 rfl ?_
        refine gi_ildn hC dX4_tight_33 rfl ?_
        refine gi_ildn hC dX4_tight_34 rfl ?_
        refine gk_VI (n := 3) hC (fun l => c_X4_isTight l E σ7 n ps U V (mG_h h7.1 hM) _ h7.2 kk hk i j (by omega) (by omega)) (gm_o4 E) rfl (gw_V gw_444 gw_446 gw_21 gw_28 gw_447) rfl ⟨rfl, rfl⟩ rfl (by decide +kernel) ⟨by decide, by decide⟩ (Nat.le_of_ble_eq_true rfl) dX4_tight_35 (fun r8 σ8 h8 => ?_)
        obtain ⟨h8, rfl⟩ := h8
        refine gi_if_eq hC 45 dX4_tight_38 (by decide) (fun h9 => ?_) (fun h9 => ?_)
        ·
          refine gi_const hC (v := 0) dX4_tight_45 (by decide) ?_
          refine hR _ _ _ _ rfl ⟨h7.1, Or.inr ⟨kk, i, j, hk, rfl, hi2, rfl, hj, rfl, ?_⟩⟩ dX4_tight_46
          rw [← h8, h9]
        ·
          refine gi_const hC (v := 1) dX4_tight_41 (by decide) ?_
          refine gi_goto hC 46 dX4_tight_42 (by decide) ?_
          refine hR _ _ _ _ rfl ⟨h7.1, Or.inr ⟨kk, i, j, hk, rfl, hi2, rfl, hj, rfl, ?_⟩⟩ dX4_tight_46
          by_cases ht : tgt n U V (hdd n U V ps kk) kk i j = true
          · rw [if_pos ht]
          · rw [if_neg ht] at h8; exact absurd h8 h9
      ·
        have hn : ¬ ∃ j, j < n ∧ b = nI j := by
          rcases h5 with ⟨z, -⟩ | ⟨-, z⟩
          · rw [z] at h6; exact absurd h6 (by decide)
          · exact z
        refine gi_bipush hC (v := -2) dX4_tight_23 (by decide) ?_
        exact hR _ _ _ _ rfl ⟨gm_fr_rf, Or.inl ⟨rfl, fun z => hn z.2.2⟩⟩ dX4_tight_25
