/-! THE SEARCH: reachFrom, findRoom, takeIn, reason -/
def rf_is (r : Int32) (σ2 : gm_S) (k : Nat) (frm : Option Nat) (z : Option Nat × sq) : Prop := sr_rep σ2 k z.2 ∧ match z.1 with
  | some f => r = 1 ∧ f < k ∧ σ2.1 (gm_P k) 10 = oI frm ∧ σ2.1 (gm_P k) 11 = nI f
  | none => r = 0
def fn_is (r : Int32) (σ2 : gm_S) (k : Nat) (z : Option (Option Nat × Nat) × sq) : Prop := sr_rep σ2 k z.2 ∧ match z.1 with
  | some (lm, f) => r = 1 ∧ f < k ∧ σ2.1 (gm_P k) 10 = oI lm ∧ (∀ j, lm = some j → j < 24) ∧ σ2.1 (gm_P k) 11 = nI f
  | none => r = 0
/-- the followers' row, whatever it holds -/
def fo_rep (σ : gm_S) (k : Nat) (fol : Nat → Option Nat) : Prop := ∀ e, e < 24 → σ.2 (gm_P k + 3) e = oI (fol e) ∧ ∀ j, fol e = some j → j < 24
theorem rf_lp_lt (wy : Nat → Option (Nat → Bool)) (fx : Nat → Bool) (frm : Option Nat) : ∀ n f s, ∀ t, (rf_lp wy fx frm n f s).1 = some t → f ≤ t ∧ t < f + n
  | 0, f, s, t, h => by rw [rf_lp] at h; cases h
  | n + 1, f, s, t, h => by
    rw [rf_lp] at h
    split at h
    · cases h; exact ⟨Nat.le_refl _, by omega⟩
    · have := rf_lp_lt wy fx frm n (f + 1) _ t h
      omega
set_option maxHeartbeats 4000000 in
set_option maxRecDepth 100000 in
theorem c_X1_reachFrom (l : Launch) (E : gm_E) {kk : Nat} (hk : kk < 7) (σ : gm_S) (q : pq) (hp : pk_rep σ kk q) (s : sq) (hs : sr_rep σ kk s) (fx : Nat → Bool) (hfx : bm (σ.1 (gm_P kk) 5) fx) (frm : Option Nat) (hf : ∀ j, frm = some j → j < 24) (a b : Nat) (ha : a < 10) (hb : b < 10) : gm_MI l E yX1_reachFrom (.code yX1_reachFrom cX1_reachFrom 6 (some .boolean) :: gw_T) { frames := 1, cells := 0, slots := 0, locals := 27 } [.ref (E.2.2 (gm_P kk)), .int (oI frm), .int (nI a), .int (nI b)] σ (fun r σ2 => gm_fr σ σ2 (sr_F kk) (sr_R kk) ∧ rf_is r σ2 kk frm (rf_lp (wys q a b) fx frm kk 0 s)) := by
  refine gm_enterI RX1 (by decide +kernel) rfl rfl (Nat.le_of_ble_eq_true rfl) (gm_c1_ok rfl) ?_
  intro X hC hR
  show gm_G X E 6 0 [some (.ref (E.2.2 (gm_P kk))), some (.int (oI frm)), some (.int (nI a)), some (.int (nI b)), none, none] [] σ
  obtain ⟨Z, hZ⟩ : ∃ Z, Z = rf_lp (wys q a b) fx frm kk 0 s := ⟨_, rfl⟩
  rw [← hZ] at hR
  have L : ∀ n i (σ2 : gm_S) (s2 : sq) (w5 : Option Value), i + n = kk → gm_fr σ σ2 (sr_F kk) (sr_R kk) → sr_rep σ2 kk s2 → Z = rf_lp (wys q a b) fx frm n i s2 → gm_G X E 6 3 [some (.ref (E.2.2 (gm_P kk))), some (.int (oI frm)), some (.int (nI a)), some (.int (nI b)), some (.int (nI i)), w5] [] σ2 := by
    intro n
    induction n with
    | zero =>
      intro i σ2 s2 w5 hi0 hfr hsr hw
      have hi0 : i = kk := by omega
      subst hi0
      rw [rf_lp] at hw
      refine gi_ild hC dX1_reachFrom_3 rfl ?_
      refine gi_aldn hC dX1_reachFrom_5 rfl ?_
      refine gf_P_forests hC hk gw_95 dX1_reachFrom_6 ?_
      refine gi_alenF hC hk dX1_reachFrom_9 ?_
      refine gi_icmp_ge hC 73 dX1_reachFrom_10 (by decide) (fun h1 => ?_) (fun h1 => ?_)
      ·
        refine gi_const hC (v := 0) dX1_reachFrom_73 (by decide) ?_
        exact hR _ _ _ _ (by decide +kernel) ⟨hfr, by rw [hw]; exact ⟨hsr, rfl⟩⟩ dX1_reachFrom_74
      · exact absurd (Int32.le_refl _) h1
    | succ n ih =>
      intro i σ2 s2 w5 hi0 hfr hsr hw
      have hi : i < kk := by omega
      have hp2 := pk_sr hk hfr hp
      have hfx2 : bm (σ2.1 (gm_P kk) 5) fx := by rw [hfr.1 _ 5 (fun z => by rcases z.2 with z | z | z | z <;> cases z)]; exact hfx
      refine gi_ild hC dX1_reachFrom_3 rfl ?_
      refine gi_aldn hC dX1_reachFrom_5 rfl ?_
      refine gf_P_forests hC hk gw_95 dX1_reachFrom_6 ?_
      refine gi_alenF hC hk dX1_reachFrom_9 ?_
      refine gi_icmp_ge hC 73 dX1_reachFrom_10 (by decide) (fun h1 => ?_) (fun h1 => ?_)
      · exact absurd h1 (nI_ge (a := i) (b := kk) hi (by omega))
      ·
        refine gi_aldn hC dX1_reachFrom_13 rfl ?_
        refine gf_P_forests hC hk gw_95 dX1_reachFrom_14 ?_
        refine gi_ild hC dX1_reachFrom_17 rfl ?_
        refine gi_aaldF hC hk hi rfl dX1_reachFrom_19 ?_
        refine gi_ildn hC dX1_reachFrom_20 rfl ?_
        refine gi_ildn hC dX1_reachFrom_21 rfl ?_
        refine gk_VI (n := 2) hC (fun l => c_X2_way l E hk hi σ2 (q.2.1 i) (q.2.2 i) (hp2.2 i hi) a b ha hb) (gm_o2 E hk hi) rfl (gw_V gw_211 gw_212 gw_213 gw_27 gw_214) rfl ⟨rfl, rfl⟩ rfl (by decide +kernel) ⟨by decide, by decide⟩ (Nat.le_of_ble_eq_true rfl) dX1_reachFrom_22 (fun r σ3 hq => ?_)
        obtain ⟨hq, rfl⟩ := hq
        rw [rf_lp] at hw
        cases hwy : wys q a b i with
        | none =>
          rw [hwy] at hw
          try dsimp only at hw
          rw [show wm (q.2.1 i) (q.2.2 i) a b = none from hwy] at hq
          have hq : r = -1 := hq
          subst hq
          refine gi_ist_5 hC dX1_reachFrom_25 (by decide) ?_
          refine gi_ild hC dX1_reachFrom_27 rfl ?_
          refine gi_const hC (v := -1) dX1_reachFrom_29 (by decide) ?_
          refine gi_icmp_ne hC 46 dX1_reachFrom_30 (by decide) (fun h2 => ?_) (fun h2 => ?_)
          · exact absurd rfl h2
          ·
            refine gi_aldn hC dX1_reachFrom_33 rfl ?_
            refine gi_ildn hC dX1_reachFrom_34 rfl ?_
            refine pf_P_lastMoved hC hk gw_102 dX1_reachFrom_35 ?_
            refine gi_aldn hC dX1_reachFrom_38 rfl ?_
            refine gi_ild hC dX1_reachFrom_39 rfl ?_
            refine pf_P_room hC hk gw_103 dX1_reachFrom_41 ?_
            refine gi_const hC (v := 1) dX1_reachFrom_44 (by decide) ?_
            refine hR _ _ _ _ (by decide +kernel) ⟨gm_fr_tr hfr (gm_fr_tr (gm_fr_sc ⟨rfl, Or.inr (Or.inr (Or.inl rfl))⟩) (gm_fr_sc ⟨rfl, Or.inr (Or.inr (Or.inr rfl))⟩)), ?_⟩ dX1_reachFrom_45
            rw [hw]
            obtain ⟨s1, s2', s3, s4, s5⟩ := hsr
            refine ⟨⟨?_, ?_, s3, s4, s5⟩, rfl, hi, ?_, gm_sc_1 _ _ _ _⟩
            · rw [gm_sc_n _ _ (by omega), gm_sc_n _ _ (by omega)]; exact s1
            · rw [gm_sc_n _ _ (by omega), gm_sc_n _ _ (by omega)]; exact s2'
            · rw [gm_sc_n _ _ (by omega), gm_sc_1]
        | some S =>
          rw [hwy] at hw
          try dsimp only at hw
          rw [show wm (q.2.1 i) (q.2.2 i) a b = some S from hwy] at hq
          have hq : bm r S := hq
          have hr1 : r ≠ -1 := wm_ne hq (wm_lt ha hb (fun j hj => ⟨((hp2.2 i hi) j hj).2.1, ((hp2.2 i hi) j hj).2.2.2⟩) hwy)
          refine gi_ist_5 hC dX1_reachFrom_25 (by decide) ?_
          refine gi_ild hC dX1_reachFrom_27 rfl ?_
          refine gi_const hC (v := -1) dX1_reachFrom_29 (by decide) ?_
          refine gi_icmp_ne hC 46 dX1_reachFrom_30 (by decide) (fun h2 => ?_) (fun h2 => ?_)
          ·
            refine gi_aldn hC dX1_reachFrom_46 rfl ?_
            refine gi_ild hC dX1_reachFrom_47 rfl ?_
            refine gi_aldn hC dX1_reachFrom_49 rfl ?_
            refine gf_P_fixed hC hk gw_97 dX1_reachFrom_50 ?_
            refine gi_const hC (v := -1) dX1_reachFrom_53 (by decide) ?_
            refine gi_ixor hC dX1_reachFrom_54 ?_
            refine gi_iand hC dX1_reachFrom_55 ?_
            refine gi_aldn hC dX1_reachFrom_56 rfl ?_
            refine gf_P_reached hC hk gw_98 dX1_reachFrom_57 ?_
            refine gi_const hC (v := -1) dX1_reachFrom_60 (by decide) ?_
            refine gi_ixor hC dX1_reachFrom_61 ?_
            refine gi_iand hC dX1_reachFrom_62 ?_
            refine gi_ildn hC dX1_reachFrom_63 rfl ?_
            refine gk_VV (n := 2) hC (fun l => c_X1_reach l E hk σ3 s2 hsr _ (fun i => (S i && !fx i) && !s2.1 i) (bm_and (bm_and hq (bm_not hfx2)) (bm_not hsr.1)) frm hf) (gm_o1 E hk) rfl (gw_V gw_215 gw_217 gw_3 gw_25 gw_218) rfl ⟨rfl, rfl⟩ rfl (by decide +kernel) ⟨by decide, by decide⟩ (Nat.le_of_ble_eq_true rfl) dX1_reachFrom_64 (fun σ4 h9 => ?_)
            refine gi_iinc_4 hC dX1_reachFrom_67 (nI_1 i) (by decide) ?_
            refine gi_goto hC 3 dX1_reachFrom_70 (by decide) ?_
            exact ih (i + 1) σ4 _ _ (by omega) (gm_fr_tr hfr h9.1) h9.2 hw
          · exact absurd h2 hr1
  refine gi_const hC (v := 0) dX1_reachFrom_0 (by decide) ?_
  refine gi_ist_4 hC dX1_reachFrom_1 (by decide) ?_
  exact L kk 0 σ s _ (by omega) gm_fr_rf hs hZ
set_option maxHeartbeats 4000000 in
set_option maxRecDepth 100000 in
theorem c_X1_findRoom (l : Launch) (E : gm_E) {kk : Nat} (hk : kk < 7) (σ : gm_S) (U V : Nat → Nat) (hg : gL σ U V) (ps : Nat → Bool) (hps : bm (σ.1 1 2) ps) (q : pq) (hp : pk_rep σ kk q) (fx : Nat → Bool) (hfx : bm (σ.1 (gm_P kk) 5) fx) (fol : Nat → Option Nat) (hfo : fo_rep σ kk fol) (a b : Nat) (ha : a < 10) (hb : b < 10) : gm_MI l E yX1_findRoom (.code yX1_findRoom cX1_findRoom 6 (some .boolean) :: gw_T) { frames := 2, cells := 0, slots := 0, locals := 52 } [.ref (E.2.2 (gm_P kk)), .ref (E.2.2 1), .int (nI a), .int (nI b)] σ (fun r σ2 => gm_fr σ σ2 (sr_F kk) (sr_R kk) ∧ fn_is r σ2 kk (fnd kk U V ps q fx a b fol)) := by
  refine gm_enterI RX1 (by decide +kernel) rfl rfl (Nat.le_of_ble_eq_true rfl) (gm_c1_ok rfl) ?_
  intro X hC hR
  show gm_G X E 6 0 [some (.ref (E.2.2 (gm_P kk))), some (.ref (E.2.2 1)), some (.int (nI a)), some (.int (nI b)), none, none] [] σ
  obtain ⟨Z, hZ⟩ : ∃ Z, Z = fnd kk U V ps q fx a b fol := ⟨_, rfl⟩
  rw [← hZ] at hR
  have L : ∀ n i (σ2 : gm_S) (s2 : sq) (w5 : Option Value), i + n = 24 → gm_fr σ σ2 (sr_F kk) (sr_R kk) → sr_rep σ2 kk s2 → Z = fl kk U V ps q fx n i s2 → gm_G X E 6 25 [some (.ref (E.2.2 (gm_P kk))), some (.ref (E.2.2 1)), some (.int (nI a)), some (.int (nI b)), some (.int (nI i)), w5] [] σ2 := by
    intro n
    induction n with
    | zero =>
      intro i σ2 s2 w5 hi0 hfr hsr hw
      have hi0 : i = 24 := by omega
      subst hi0
      rw [fl] at hw
      obtain ⟨s1, s2l, s3, s4, s5⟩ := id hsr
      refine gi_ild hC dX1_findRoom_25 rfl ?_
      refine gi_aldn hC dX1_findRoom_27 rfl ?_
      refine gf_P_queued hC hk gw_100 dX1_findRoom_28 ?_
      rw [s2l]
      refine gi_icmp_ge hC 90 dX1_findRoom_31 (by decide) (fun h1 => ?_) (fun h1 => ?_)
      ·
        refine gi_const hC (v := 0) dX1_findRoom_90 (by decide) ?_
        exact hR _ _ _ _ (by decide +kernel) ⟨hfr, by rw [hw]; exact ⟨hsr, rfl⟩⟩ dX1_findRoom_91
      · exact absurd (nI_le (a := s2.2.1.length) (b := 24) s3 (by omega)) h1
    | succ n ih =>
      intro i σ2 s2 w5 hi0 hfr hsr hw
      have hp2 := pk_sr hk hfr hp
      have hg2 := gL_sr hfr hg
      have hps2 := ps_sr hfr hps
      have hfx2 : bm (σ2.1 (gm_P kk) 5) fx := by rw [hfr.1 _ 5 (fun z => by rcases z.2 with z | z | z | z <;> cases z)]; exact hfx
      obtain ⟨s1, s2l, s3, s4, s5⟩ := id hsr
      rw [fl] at hw
      refine gi_ild hC dX1_findRoom_25 rfl ?_
      refine gi_aldn hC dX1_findRoom_27 rfl ?_
      refine gf_P_queued hC hk gw_100 dX1_findRoom_28 ?_
      rw [s2l]
      refine gi_icmp_ge hC 90 dX1_findRoom_31 (by decide) (fun h1 => ?_) (fun h1 => ?_)
      ·
        have hlen : s2.2.1.length ≤ i := by
          rcases Nat.lt_or_ge i s2.2.1.length with z | z
          · exact absurd h1 (nI_ge (a := i) (b := s2.2.1.length) z (by omega))
          · exact z
        rw [List.getElem?_eq_none hlen] at hw
        try dsimp only at hw
        refine gi_const hC (v := 0) dX1_findRoom_90 (by decide) ?_
        exact hR _ _ _ _ (by decide +kernel) ⟨hfr, by rw [hw]; exact ⟨hsr, rfl⟩⟩ dX1_findRoom_91
      ·
        have hlen : i < s2.2.1.length := by
          rcases Nat.lt_or_ge i s2.2.1.length with z | z
          · exact z
          · exact absurd (nI_le (a := s2.2.1.length) (b := i) z (by omega)) h1
        obtain ⟨e, he⟩ : ∃ e, s2.2.1[i]? = some e := ⟨_, List.getElem?_eq_getElem hlen⟩
        obtain ⟨he24, hqe⟩ := s4 i e he
        obtain ⟨g1, g2, g3, g4⟩ := hg2 e he24
        rw [he] at hw
        try dsimp only at hw
        refine gi_ild hC dX1_findRoom_34 rfl ?_
        refine gi_bipush hC (v := 24) dX1_findRoom_36 (by decide) ?_
        refine gi_icmp_ge hC 90 dX1_findRoom_38 (by decide) (fun h2 => ?_) (fun h2 => ?_)
        · exact absurd h2 (nI_ge (a := i) (b := 24) (by omega) (by omega))
        ·
          refine gi_aldn hC dX1_findRoom_41 rfl ?_
          refine gf_P_queue hC hk gw_99 dX1_findRoom_42 ?_
          refine gi_ild hC dX1_findRoom_45 rfl ?_
          refine gi_iald hC (gm_iR E hk 2 (by decide) (by decide)) (j := i) (by omega) rfl (by first | decide | omega) dX1_findRoom_47 ?_
          rw [hqe]
          refine gi_ist_5 hC dX1_findRoom_48 (by decide) ?_
          refine gi_aldn hC dX1_findRoom_50 rfl ?_
          refine gi_ild hC dX1_findRoom_51 rfl ?_
          refine gk_VI (n := 1) hC (fun l => c_X0_hasEdge l E σ2 (nI e)) (gm_o0 E) rfl (gw_V gw_202 gw_167 gw_168 gw_24 gw_169) rfl ⟨rfl, rfl⟩ rfl (by decide +kernel) ⟨by decide, by decide⟩ (Nat.le_of_ble_eq_true rfl) dX1_findRoom_53 (fun r0 σ3 hq => ?_)
          obtain ⟨hq, rfl⟩ := hq
          rw [gE_has_nI he24, hps2 e (by omega)] at hq
          refine gi_if_eq hC 84 dX1_findRoom_56 (by decide) (fun h4 => ?_) (fun h4 => ?_)
          ·
            have hpe : ¬ ps e = true := by
              rcases hq with ⟨a1, -⟩ | ⟨-, a1⟩
              · rw [a1] at h4; exact absurd h4 (by decide)
              · exact a1
            rw [if_neg hpe] at hw
            refine gi_iinc_4 hC dX1_findRoom_84 (nI_1 i) (by decide) ?_
            refine gi_goto hC 25 dX1_findRoom_87 (by decide) ?_
            exact ih (i + 1) σ3 _ _ (by omega) hfr hsr hw
          ·
            have hpe : ps e = true := by
              rcases hq with ⟨-, a1⟩ | ⟨a1, -⟩
              · exact a1
              · exact absurd a1 h4
            rw [if_pos hpe] at hw
            refine gi_aldn hC dX1_findRoom_59 rfl ?_
            refine gi_ild hC dX1_findRoom_60 rfl ?_
            refine gi_aldn hC dX1_findRoom_62 rfl ?_
            refine gf_G_lesser hC gw_46 dX1_findRoom_63 ?_
            refine gi_ild hC dX1_findRoom_66 rfl ?_
            refine gi_iald hC (gm_i2 E) he24 rfl (by first | decide | omega) dX1_findRoom_68 ?_
            refine gi_aldn hC dX1_findRoom_69 rfl ?_
            refine gf_G_greater hC gw_49 dX1_findRoom_70 ?_
            refine gi_ild hC dX1_findRoom_73 rfl ?_
            refine gi_iald hC (gm_i3 E) he24 rfl (by first | decide | omega) dX1_findRoom_75 ?_
            rw [g1, g2]
            refine gk_VI (n := 3) hC (fun l => c_X1_reachFrom l E hk σ3 q hp2 s2 hsr fx hfx2 (some e) (fun j hj => by cases hj; exact he24) (U e) (V e) g3 g4) (gm_o1 E hk) rfl (gw_V gw_207 gw_209 gw_2 gw_25 gw_210) rfl ⟨rfl, rfl⟩ rfl (by decide +kernel) ⟨by decide, by decide⟩ (Nat.le_of_ble_eq_true rfl) dX1_findRoom_76 (fun r σ4 h9 => ?_)
            obtain ⟨h91, h92⟩ := h9
            have hlt := rf_lp_lt (wys q (U e) (V e)) fx (some e) kk 0 s2
            generalize rf_lp (wys q (U e) (V e)) fx (some e) kk 0 s2 = z at hw h92 hlt
            obtain ⟨z1, z2⟩ := z
            cases z1 with
            | some f =>
              try dsimp only at hw
              obtain ⟨h93, rfl, h94, h95, h96⟩ := h92
              refine gi_if_eq hC 84 dX1_findRoom_79 (by decide) (fun h3 => ?_) (fun h3 => ?_)
              · exact absurd h3 (by decide)
              ·
                refine gi_const hC (v := 1) dX1_findRoom_82 (by decide) ?_
                exact hR _ _ _ _ (by decide +kernel) ⟨gm_fr_tr hfr h91, by rw [hw]; exact ⟨h93, rfl, h94, h95, fun j hj => by cases hj; exact he24, h96⟩⟩ dX1_findRoom_83
            | none =>
              try dsimp only at hw
              obtain ⟨h93, h94⟩ := h92
              have h94 : r = 0 := h94
              subst h94
              refine gi_if_eq hC 84 dX1_findRoom_79 (by decide) (fun h3 => ?_) (fun h3 => ?_)
              ·
                refine gi_iinc_4 hC dX1_findRoom_84 (nI_1 i) (by decide) ?_
                refine gi_goto hC 25 dX1_findRoom_87 (by decide) ?_
                exact ih (i + 1) σ4 _ _ (by omega) (gm_fr_tr hfr h91) h93 hw
              · exact absurd rfl h3
  refine gi_aldn hC dX1_findRoom_0 rfl ?_
  refine gi_const hC (v := 0) dX1_findRoom_1 (by decide) ?_
  refine pf_P_reached hC hk gw_98 dX1_findRoom_2 ?_
  refine gi_aldn hC dX1_findRoom_5 rfl ?_
  refine gi_const hC (v := 0) dX1_findRoom_6 (by decide) ?_
  refine pf_P_queued hC hk gw_100 dX1_findRoom_7 ?_
  refine gi_aldn hC dX1_findRoom_10 rfl ?_
  refine gi_const hC (v := -1) dX1_findRoom_11 (by decide) ?_
  refine gi_ildn hC dX1_findRoom_12 rfl ?_
  refine gi_ildn hC dX1_findRoom_13 rfl ?_
  have hfr0 : gm_fr σ (gm_sc (gm_sc σ (gm_P kk) 6 0) (gm_P kk) 8 0) (sr_F kk) (sr_R kk) := gm_fr_tr (gm_fr_sc ⟨rfl, Or.inl rfl⟩) (gm_fr_sc ⟨rfl, Or.inr (Or.inl rfl)⟩)
  have hsr0 : sr_rep (gm_sc (gm_sc σ (gm_P kk) 6 0) (gm_P kk) 8 0) kk (fun _ => false, [], fol) := by
    refine ⟨?_, gm_sc_1 _ _ _ _, Nat.zero_le _, fun i e h => (by simp at h), hfo⟩
    rw [gm_sc_n _ _ (by omega), gm_sc_1]
    exact bm_0
  have hfx2 : bm ((gm_sc (gm_sc σ (gm_P kk) 6 0) (gm_P kk) 8 0).1 (gm_P kk) 5) fx := by
    rw [gm_sc_n _ _ (by omega), gm_sc_n _ _ (by omega)]
    exact hfx
  generalize gm_sc (gm_sc σ (gm_P kk) 6 0) (gm_P kk) 8 0 = σ1 at hfr0 hsr0 hfx2 ⊢
  refine gk_VI (n := 3) hC (fun l => c_X1_reachFrom l E hk σ1 q (pk_sr hk hfr0 hp) (fun _ => false, [], fol) hsr0 fx hfx2 none (fun j hj => by cases hj) a b ha hb) (gm_o1 E hk) rfl (gw_V gw_207 gw_209 gw_2 gw_25 gw_210) rfl ⟨rfl, rfl⟩ rfl (by decide +kernel) ⟨by decide, by decide⟩ (Nat.le_of_ble_eq_true rfl) dX1_findRoom_14 (fun r σ3 h9 => ?_)
  obtain ⟨h91, h92⟩ := h9
  rw [fnd] at hZ
  generalize rf_lp (wys q a b) fx none kk 0 (fun _ => false, [], fol) = z at hZ h92
  obtain ⟨z1, z2⟩ := z
  cases z1 with
  | some f =>
    try dsimp only at hZ
    obtain ⟨h93, rfl, h94, h95, h96⟩ := h92
    refine gi_if_eq hC 22 dX1_findRoom_17 (by decide) (fun h3 => ?_) (fun h3 => ?_)
    · exact absurd h3 (by decide)
    ·
      refine gi_const hC (v := 1) dX1_findRoom_20 (by decide) ?_
      exact hR _ _ _ _ (by decide +kernel) ⟨gm_fr_tr hfr0 h91, by rw [hZ]; exact ⟨h93, rfl, h94, h95, fun j hj => (by cases hj), h96⟩⟩ dX1_findRoom_21
  | none =>
    try dsimp only at hZ
    obtain ⟨h93, h94⟩ := h92
    have h94 : r = 0 := h94
    subst h94
    refine gi_if_eq hC 22 dX1_findRoom_17 (by decide) (fun h3 => ?_) (fun h3 => ?_)
    ·
      refine gi_const hC (v := 0) dX1_findRoom_22 (by decide) ?_
      refine gi_ist_4 hC dX1_findRoom_23 (by decide) ?_
      exact L 24 0 σ3 _ _ rfl (gm_fr_tr hfr0 h91) h93 hZ
    · exact absurd rfl h3
set_option maxHeartbeats 4000000 in
set_option maxRecDepth 100000 in
theorem c_X1_takeIn (l : Launch) (E : gm_E) {kk : Nat} (hk : kk < 7) (σ : gm_S) (U V : Nat → Nat) (hg : gL σ U V) (ps : Nat → Bool) (hps : bm (σ.1 1 2) ps) (q : pq) (hp : pk_rep σ kk q) (fol : Nat → Option Nat) (hfo : fo_rep σ kk fol) (lm : Option Nat) (hlm : ∀ j, lm = some j → j < 24) (hlm2 : σ.1 (gm_P kk) 10 = oI lm) (t : Nat) (ht : t < kk) (ht2 : σ.1 (gm_P kk) 11 = nI t) (e : Nat) (he : e < 24) : gm_MV l E yX1_takeIn (.code yX1_takeIn cX1_takeIn 7 none :: gw_T) { frames := 2, cells := 0, slots := 0, locals := 52 } [.ref (E.2.2 (gm_P kk)), .ref (E.2.2 1), .int (nI e)] σ (fun σ2 => gm_kp σ σ2 (pk_R kk) ∧ pk_rep σ2 kk (tkin U V ps fol q lm t e)) := by
  refine gm_enterV RX1 (by decide +kernel) rfl rfl (Nat.le_of_ble_eq_true rfl) (gm_c1_ok rfl) ?_
  intro X hC hR
  show gm_G X E 7 0 [some (.ref (E.2.2 (gm_P kk))), some (.ref (E.2.2 1)), some (.int (nI e)), none, none, none, none] [] σ
  obtain ⟨Z, hZ⟩ : ∃ Z, Z = tk U V ps fol 24 q lm (some t) := ⟨_, rfl⟩
  rw [tkin, ← hZ] at hR
  have L : ∀ n i (σ2 : gm_S) (q2 : pq) (m t2 : Option Nat) (w6 : Option Value), i + n = 24 → gm_kp σ σ2 (pk_R kk) → pk_rep σ2 kk q2 → (∀ j, m = some j → j < 24) → (∀ f, t2 = some f → f < kk) → Z = tk U V ps fol n q2 m t2 → gm_G X E 7 14 [some (.ref (E.2.2 (gm_P kk))), some (.ref (E.2.2 1)), some (.int (nI e)), some (.int (oI t2)), some (.int (oI m)), some (.int (nI i)), w6] [] σ2 := by
    intro n
    induction n with
    | zero =>
      intro i σ2 q2 m t2 w6 hi0 hkp hp2 hm ht2 hw
      have hi0 : i = 24 := by omega
      subst hi0
      rw [tk] at hw
      refine gi_ild hC dX1_takeIn_14 rfl ?_
      refine gi_bipush hC (v := 24) dX1_takeIn_16 (by decide) ?_
      refine gi_icmp_ge hC 71 dX1_takeIn_18 (by decide) (fun h1 => ?_) (fun h1 => ?_)
      ·
        refine gi_aldn hC dX1_takeIn_71 rfl ?_
        refine gi_aldn hC dX1_takeIn_72 rfl ?_
        refine gi_ildn hC dX1_takeIn_73 rfl ?_
        refine gi_ildn hC dX1_takeIn_74 rfl ?_
        refine gk_VV (n := 3) hC (fun l => c_X1_put l E hk σ2 U V (gL_kp hkp hg) q2 hp2 e he t2 ht2) (gm_o1 E hk) rfl (gw_V gw_231 gw_233 gw_6 gw_25 gw_234) rfl ⟨rfl, rfl⟩ rfl (by decide +kernel) ⟨by decide, by decide⟩ (Nat.le_of_ble_eq_true rfl) dX1_takeIn_75 (fun σ5 h9 => ?_)
        exact hR _ _ _ ⟨gm_kp_tr hkp h9.1, by rw [hw]; exact h9.2⟩ dX1_takeIn_78
      · exact absurd (Int32.le_refl _) h1
    | succ n ih =>
      intro i σ2 q2 m t2 w6 hi0 hkp hp2 hm ht2 hw
      refine gi_ild hC dX1_takeIn_14 rfl ?_
      refine gi_bipush hC (v := 24) dX1_takeIn_16 (by decide) ?_
      refine gi_icmp_ge hC 71 dX1_takeIn_18 (by decide) (fun h1 => ?_) (fun h1 => ?_)
      · exact absurd h1 (nI_ge (a := i) (b := 24) (by omega) (by omega))
      ·
        have hps2 := ps_kp hkp hps
        refine gi_aldn hC dX1_takeIn_21 rfl ?_
        refine gi_ild hC dX1_takeIn_22 rfl ?_
        refine gk_VI (n := 1) hC (fun l => c_X0_hasEdge l E σ2 (oI m)) (gm_o0 E) rfl (gw_V gw_202 gw_167 gw_168 gw_24 gw_169) rfl ⟨rfl, rfl⟩ rfl (by decide +kernel) ⟨by decide, by decide⟩ (Nat.le_of_ble_eq_true rfl) dX1_takeIn_24 (fun r0 σ3 hq => ?_)
        obtain ⟨hq, rfl⟩ := hq
        cases m with
        | none =>
          have hr0 : r0 = 0 := by
            rcases hq with ⟨-, z⟩ | ⟨z, -⟩
            · exact absurd (by show (-1 : Int32) < 0; decide) z.1
            · exact z
          subst hr0
          rw [tk] at hw
          refine gi_if_eq hC 71 dX1_takeIn_27 (by decide) (fun h2 => ?_) (fun h2 => ?_)
          ·
            refine gi_aldn hC dX1_takeIn_71 rfl ?_
            refine gi_aldn hC dX1_takeIn_72 rfl ?_
            refine gi_ildn hC dX1_takeIn_73 rfl ?_
            refine gi_ildn hC dX1_takeIn_74 rfl ?_
            refine gk_VV (n := 3) hC (fun l => c_X1_put l E hk σ3 U V (gL_kp hkp hg) q2 hp2 e he t2 ht2) (gm_o1 E hk) rfl (gw_V gw_231 gw_233 gw_6 gw_25 gw_234) rfl ⟨rfl, rfl⟩ rfl (by decide +kernel) ⟨by decide, by decide⟩ (Nat.le_of_ble_eq_true rfl) dX1_takeIn_75 (fun σ5 h9 => ?_)
            exact hR _ _ _ ⟨gm_kp_tr hkp h9.1, by rw [hw]; exact h9.2⟩ dX1_takeIn_78
          · exact absurd rfl h2
        | some c =>
          have hc := hm c rfl
          rw [show oI (some c) = nI c from rfl, gE_has_nI hc, hps2 c (by omega)] at hq
          rw [tk] at hw
          obtain ⟨p1, p2⟩ := hp2.1 c hc
          refine gi_if_eq hC 71 dX1_takeIn_27 (by decide) (fun h2 => ?_) (fun h2 => ?_)
          ·
            have hpc : ¬ ps c = true := by
              rcases hq with ⟨a1, -⟩ | ⟨-, a1⟩
              · rw [a1] at h2; exact absurd h2 (by decide)
              · exact a1
            rw [if_neg hpc] at hw
            refine gi_aldn hC dX1_takeIn_71 rfl ?_
            refine gi_aldn hC dX1_takeIn_72 rfl ?_
            refine gi_ildn hC dX1_takeIn_73 rfl ?_
            refine gi_ildn hC dX1_takeIn_74 rfl ?_
            refine gk_VV (n := 3) hC (fun l => c_X1_put l E hk σ3 U V (gL_kp hkp hg) q2 hp2 e he t2 ht2) (gm_o1 E hk) rfl (gw_V gw_231 gw_233 gw_6 gw_25 gw_234) rfl ⟨rfl, rfl⟩ rfl (by decide +kernel) ⟨by decide, by decide⟩ (Nat.le_of_ble_eq_true rfl) dX1_takeIn_75 (fun σ5 h9 => ?_)
            exact hR _ _ _ ⟨gm_kp_tr hkp h9.1, by rw [hw]; exact h9.2⟩ dX1_takeIn_78
          ·
            have hpc : ps c = true := by
              rcases hq with ⟨-, a1⟩ | ⟨a1, -⟩
              · exact a1
              · exact absurd a1 h2
            rw [if_pos hpc] at hw
            refine gi_aldn hC dX1_takeIn_30 rfl ?_
            refine gf_P_place hC hk gw_89 dX1_takeIn_31 ?_
            refine gi_ild hC dX1_takeIn_34 rfl ?_
            refine gi_iald hC (gm_iR E hk 1 (by decide) (by decide)) (j := c) hc rfl (by first | decide | omega) dX1_takeIn_36 ?_
            rw [p1]
            refine gi_ist_6 hC dX1_takeIn_37 (by decide) ?_
            refine gi_aldn hC dX1_takeIn_39 rfl ?_
            refine gi_ild hC dX1_takeIn_40 rfl ?_
            refine gk_VV (n := 1) hC (fun l => c_X1_remove l E hk σ3 q2 hp2 c hc) (gm_o1 E hk) rfl (gw_V gw_223 gw_225 gw_5 gw_25 gw_226) rfl ⟨rfl, rfl⟩ rfl (by decide +kernel) ⟨by decide, by decide⟩ (Nat.le_of_ble_eq_true rfl) dX1_takeIn_42 (fun σ5 h3 => ?_)
            refine gi_aldn hC dX1_takeIn_45 rfl ?_
            refine gi_aldn hC dX1_takeIn_46 rfl ?_
            refine gi_ild hC dX1_takeIn_47 rfl ?_
            refine gi_ildn hC dX1_takeIn_49 rfl ?_
            refine gk_VV (n := 3) hC (fun l => c_X1_put l E hk σ5 U V (gL_kp (gm_kp_tr hkp h3.1) hg) _ h3.2 c hc t2 ht2) (gm_o1 E hk) rfl (gw_V gw_231 gw_233 gw_6 gw_25 gw_234) rfl ⟨rfl, rfl⟩ rfl (by decide +kernel) ⟨by decide, by decide⟩ (Nat.le_of_ble_eq_true rfl) dX1_takeIn_50 (fun σ4 h4 => ?_)
            have hkp4 := gm_kp_tr hkp (gm_kp_tr h3.1 h4.1)
            obtain ⟨f1, f2⟩ := hfo c hc
            rw [← hkp4.2 (gm_P kk + 3) (fun z => by unfold pk_R at z; omega)] at f1
            refine gi_ild hC dX1_takeIn_53 rfl ?_
            refine gi_istn_3 hC dX1_takeIn_55 (by decide) ?_
            refine gi_aldn hC dX1_takeIn_56 rfl ?_
            refine gf_P_follower hC hk gw_101 dX1_takeIn_57 ?_
            refine gi_ild hC dX1_takeIn_60 rfl ?_
            refine gi_iald hC (gm_iR E hk 3 (by decide) (by decide)) (j := c) hc rfl (by first | decide | omega) dX1_takeIn_62 ?_
            rw [f1]
            refine gi_ist_4 hC dX1_takeIn_63 (by decide) ?_
            refine gi_iinc_5 hC dX1_takeIn_65 (nI_1 i) (by decide) ?_
            refine gi_goto hC 14 dX1_takeIn_68 (by decide) ?_
            exact ih (i + 1) σ4 _ (fol c) (q2.1 c) _ (by omega) hkp4 h4.2 f2 p2 hw
  refine gi_aldn hC dX1_takeIn_0 rfl ?_
  refine gf_P_room hC hk gw_103 dX1_takeIn_1 ?_
  rw [ht2]
  refine gi_istn_3 hC dX1_takeIn_4 (by decide) ?_
  refine gi_aldn hC dX1_takeIn_5 rfl ?_
  refine gf_P_lastMoved hC hk gw_102 dX1_takeIn_6 ?_
  rw [hlm2]
  refine gi_ist_4 hC dX1_takeIn_9 (by decide) ?_
  refine gi_const hC (v := 0) dX1_takeIn_11 (by decide) ?_
  refine gi_ist_5 hC dX1_takeIn_12 (by decide) ?_
  exact L 24 0 σ q lm (some t) _ rfl gm_kp_rf hp hlm (fun f hf => by cases hf; exact ht) hZ
set_option maxHeartbeats 4000000 in
set_option maxRecDepth 100000 in
theorem c_X1_reason (l : Launch) (E : gm_E) {kk : Nat} (hk : kk < 7) (σ : gm_S) (U V : Nat → Nat) (hg : gL σ U V) (ps : Nat → Bool) (hps : bm (σ.1 1 2) ps) (q : pq) (hp : pk_rep σ kk q) (fx : Nat → Bool) (hfx : bm (σ.1 (gm_P kk) 5) fx) (fol : Nat → Option Nat) (hfo : fo_rep σ kk fol) (e : Nat) (he : e < 24) : gm_MI l E yX1_reason (.code yX1_reason cX1_reason 3 (some .int) :: gw_T) { frames := 3, cells := 0, slots := 0, locals := 77 } [.ref (E.2.2 (gm_P kk)), .ref (E.2.2 1), .int (nI e)] σ (fun r σ2 => gm_fr σ σ2 (sr_F kk) (sr_R kk) ∧ sr_rep σ2 kk (fnd kk U V ps q fx (U e) (V e) fol).2 ∧ bm r (fun i => (fnd kk U V ps q fx (U e) (V e) fol).2.1 i || decide (i = e))) := by
  refine gm_enterI RX1 (by decide +kernel) rfl rfl (Nat.le_of_ble_eq_true rfl) (gm_c1_ok rfl) ?_
  intro X hC hR
  show gm_G X E 3 0 [some (.ref (E.2.2 (gm_P kk))), some (.ref (E.2.2 1)), some (.int (nI e))] [] σ
  obtain ⟨g1, g2, g3, g4⟩ := hg e he
  refine gi_aldn hC dX1_reason_0 rfl ?_
  refine gi_aldn hC dX1_reason_1 rfl ?_
  refine gi_aldn hC dX1_reason_2 rfl ?_
  refine gf_G_lesser hC gw_46 dX1_reason_3 ?_
  refine gi_ildn hC dX1_reason_6 rfl ?_
  refine gi_iald hC (gm_i2 E) he rfl (by first | decide | omega) dX1_reason_7 ?_
  refine gi_aldn hC dX1_reason_8 rfl ?_
  refine gf_G_greater hC gw_49 dX1_reason_9 ?_
  refine gi_ildn hC dX1_reason_12 rfl ?_
  refine gi_iald hC (gm_i3 E) he rfl (by first | decide | omega) dX1_reason_13 ?_
  rw [g1, g2]
  refine gk_VI (n := 3) hC (fun l => c_X1_findRoom l E hk σ U V hg ps hps q hp fx hfx fol hfo (U e) (V e) g3 g4) (gm_o1 E hk) rfl (gw_V gw_203 gw_204 gw_205 gw_25 gw_206) rfl ⟨rfl, rfl⟩ rfl (by decide +kernel) ⟨by decide, by decide⟩ (Nat.le_of_ble_eq_true rfl) dX1_reason_14 (fun r σ2 h9 => ?_)
  refine gi_pop hC dX1_reason_17 rfl ?_
  refine gi_aldn hC dX1_reason_18 rfl ?_
  refine gf_P_reached hC hk gw_98 dX1_reason_19 ?_
  refine gi_const hC (v := 1) dX1_reason_22 (by decide) ?_
  refine gi_ildn hC dX1_reason_23 rfl ?_
  refine gi_ishl hC dX1_reason_24 ?_
  refine gi_ior hC dX1_reason_25 ?_
  exact hR _ _ _ _ rfl ⟨h9.1, h9.2.1, bm_or h9.2.1.1 (bm_pow (by omega))⟩ dX1_reason_26
