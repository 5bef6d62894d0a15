/-! THE PACKER: questions -/
theorem oI_m1 {r : Option Nat} (h : ∀ i, r = some i → i < 2 ^ 31) : oI r = -1 ↔ r = none := by
  constructor
  · intro e
    exact oI_inj (t := none) h (fun _ z => by cases z) e
  · rintro rfl; rfl
theorem kP_kI {σ : gm_S} {U V : Nat → Nat} {ps : Nat → Bool} {k sz : Nat} {q : pq} {fol : Nat → Option Nat} (h : kP σ U V ps k q sz fol) : kI σ U V ps k := Or.inr ⟨q, sz, fol, h⟩
theorem kfx {σ : gm_S} {U V : Nat → Nat} {ps : Nat → Bool} {k sz : Nat} {q : pq} {fol : Nat → Option Nat} (h : kP σ U V ps k q sz fol) : bm (σ.1 (gm_P k) 5) (fun _ => false) := by rw [h.1]; exact bm_0
def rsn (k : Nat) (U V : Nat → Nat) (ps : Nat → Bool) (q : pq) (e : Nat) (fol : Nat → Option Nat) : Nat → Bool := fun i => (fnd k U V ps q (fun _ => false) (U e) (V e) fol).2.1 i || decide (i = e)
def cl_lp (k : Nat) (U V : Nat → Nat) (ps : Nat → Bool) (q : pq) : Nat → Nat → Nat → (Nat → Option Nat) → Nat × (Nat → Option Nat)
  | 0, _, c, fo => (c, fo)
  | m + 1, v, c, fo => match ifc k U V ps q (fun _ => false) v v 0 fo with
    | (true, fo2) => cl_lp k U V ps q m (v + 1) (c + 1) fo2
    | (false, fo2) => cl_lp k U V ps q m (v + 1) c fo2
def cr_lp (k : Nat) (U V : Nat → Nat) (ps : Nat → Bool) (q : pq) : Nat → Nat → Nat → (Nat → Option Nat) → Nat × (Nat → Option Nat)
  | 0, _, c, fo => (c, fo)
  | m + 1, e, c, fo => if ps e = true then match fnd k U V ps q (fun _ => false) (U e) (V e) fo with
      | (some _, s) => cr_lp k U V ps q m (e + 1) (c + 1) s.2.2
      | (none, s) => cr_lp k U V ps q m (e + 1) c s.2.2
    else cr_lp k U V ps q m (e + 1) c fo
def arbP (U V : Nat → Nat) (ps : Nat → Bool) (p r : Int32) : Prop := (∃ kk, kk < 7 ∧ r = nI kk ∧ (∃ q sz b, pkd kk U V ps q sz b ∧ nI sz = jbc p) ∧ ∀ k2, k2 < kk → ∃ q sz b, pkd k2 U V ps q sz b ∧ nI sz ≠ jbc p) ∨ (r = -1 ∧ ∀ k2, k2 < 7 → ∃ q sz b, pkd k2 U V ps q sz b ∧ nI sz ≠ jbc p)
theorem kNF {σ σ2 : gm_S} {k : Nat} {F : Nat → Nat → Prop} (hF : ∀ x j, F x j → x = gm_P k) (h : gm_fr σ σ2 F (mv_R k)) (j : Nat) : σ2.1 1 j = σ.1 1 j := h.1 _ _ (fun hx => by have := hF 1 j hx; unfold gm_P at this; omega)
set_option maxHeartbeats 4000000 in
set_option maxRecDepth 100000 in
theorem c_X3_most (l : Launch) (E : gm_E) (σ : gm_S) (n : Nat) (ps : Nat → Bool) (U V : Nat → Nat) (hI : kInv σ n ps U V) (k : Int32) : gm_MI l E yX3_most (.code yX3_most cX3_most 2 (some .int) :: gw_T) { frames := 5, cells := 0, slots := 0, locals := 122 } [.ref (E.2.2 0), .int k] σ (fun r σ2 => kFR σ σ2 ∧ kInv σ2 n ps U V ∧ ((r = -2 ∧ ¬ ∃ j, j < 7 ∧ k = nI j) ∨ ∃ kk, kk < 7 ∧ k = nI kk ∧ ∃ q sz b, pkd kk U V ps q sz b ∧ r = nI sz)) := by
  refine gm_enterI RX3 (by decide +kernel) rfl rfl (Nat.le_of_ble_eq_true rfl) (gm_c1_ok rfl) ?_
  intro X hC hR
  show gm_G X E 2 0 [some (.ref (E.2.2 0)), some (.int k)] [] σ
  refine gi_ildn hC dX3_most_0 rfl ?_
  refine gk_SI (n := 1) hC (fun l => c_X3_isForestCount l E σ k) (gw_S gw_183 gw_184 gw_23 gw_185) rfl ⟨rfl, rfl⟩ rfl (by decide +kernel) ⟨by decide, by decide⟩ (Nat.le_of_ble_eq_true rfl) dX3_most_1 (fun r σ1 h1 => ?_)
  obtain ⟨h1, rfl⟩ := h1
  refine gi_if_eq hC 18 dX3_most_4 (by decide) (fun h2 => ?_) (fun h2 => ?_)
  ·
    have hn : ¬ ∃ j, j < 7 ∧ k = nI j := by
      rcases h1 with ⟨z, -⟩ | ⟨-, z⟩
      · rw [z] at h2; exact absurd h2 (by decide)
      · exact z
    refine gi_bipush hC (v := -2) dX3_most_18 (by decide) ?_
    exact hR _ _ _ _ rfl ⟨kFR_rf, hI, Or.inl ⟨rfl, hn⟩⟩ dX3_most_20
  ·
    obtain ⟨kk, hk, rfl⟩ : ∃ j, j < 7 ∧ k = nI j := by
      rcases h1 with ⟨-, z⟩ | ⟨z, -⟩
      · exact z
      · exact absurd z h2
    refine gi_aldn hC dX3_most_7 rfl ?_
    refine gi_ildn hC dX3_most_8 rfl ?_
    refine gk_VR (n := 1) hC (fun l => c_X3_packed l E σ1 n ps U V hI kk hk) (gm_o3 E) rfl (gw_V gw_186 gw_188 gw_1 gw_23 gw_189) rfl ⟨rfl, rfl⟩ rfl (by decide +kernel) ⟨by decide, by decide⟩ (Nat.le_of_ble_eq_true rfl) dX3_most_9 (fun σ2 h9 => ?_)
    obtain ⟨h9f, q, sz, fol, hP⟩ := h9
    have hI2 := kInv_up bl_blk h9f hI (kP_kI hP)
    have hfr := kFR_blk bl_blk h9f
    refine gf_P_size hC hk gw_92 dX3_most_12 ?_
    rw [hP.2.2.2.2.2.1]
    refine gi_goto hC 20 dX3_most_15 (by decide) ?_
    exact hR _ _ _ _ rfl ⟨hfr, hI2, Or.inr ⟨kk, hk, rfl, q, sz, _, hP.2.2.2.2.2.2, rfl⟩⟩ dX3_most_20
set_option maxHeartbeats 4000000 in
set_option maxRecDepth 100000 in
theorem c_X3_held (l : Launch) (E : gm_E) (σ : gm_S) (n : Nat) (ps : Nat → Bool) (U V : Nat → Nat) (hI : kInv σ n ps U V) (k a : Int32) : gm_MI l E yX3_held (.code yX3_held cX3_held 3 (some .int) :: gw_T) { frames := 5, cells := 0, slots := 0, locals := 122 } [.ref (E.2.2 0), .int k, .int a] σ (fun r σ2 => kFR σ σ2 ∧ kInv σ2 n ps U V ∧ ((r = -2 ∧ ¬ ∃ j, j < 7 ∧ k = nI j) ∨ ∃ kk, kk < 7 ∧ k = nI kk ∧ ((r = -1 ∧ ¬ ∃ e, e < 24 ∧ a = nI e ∧ ps e = true) ∨ ∃ e, e < 24 ∧ a = nI e ∧ ps e = true ∧ ∃ q sz b, pkd kk U V ps q sz b ∧ r = if q.1 e = none then 0 else 1))) := by
  refine gm_enterI RX3 (by decide +kernel) rfl rfl (Nat.le_of_ble_eq_true rfl) (gm_c1_ok rfl) ?_
  intro X hC hR
  show gm_G X E 3 0 [some (.ref (E.2.2 0)), some (.int k), some (.int a)] [] σ
  obtain ⟨g1, g2, g3, g4, g5, g6, g7⟩ := id hI.1
  refine gi_ildn hC dX3_held_0 rfl ?_
  refine gk_SI (n := 1) hC (fun l => c_X3_isForestCount l E σ k) (gw_S gw_183 gw_184 gw_23 gw_185) rfl ⟨rfl, rfl⟩ rfl (by decide +kernel) ⟨by decide, by decide⟩ (Nat.le_of_ble_eq_true rfl) dX3_held_1 (fun r σ1 h1 => ?_)
  obtain ⟨h1, rfl⟩ := h1
  refine gi_if_ne hC 10 dX3_held_4 (by decide) (fun h2 => ?_) (fun h2 => ?_)
  ·
    obtain ⟨kk, hk, rfl⟩ : ∃ j, j < 7 ∧ k = nI j := by
      rcases h1 with ⟨-, z⟩ | ⟨z, -⟩
      · exact z
      · exact absurd z h2
    refine gi_aldn hC dX3_held_10 rfl ?_
    refine gf_K_graph hC gw_129 dX3_held_11 ?_
    refine gi_ildn hC dX3_held_14 rfl ?_
    refine gk_VI (n := 1) hC (fun l => c_X0_hasEdge l E σ1 a) (gm_o0 E) rfl (gw_V gw_178 gw_167 gw_168 gw_24 gw_169) rfl ⟨rfl, rfl⟩ rfl (by decide +kernel) ⟨by decide, by decide⟩ (Nat.le_of_ble_eq_true rfl) dX3_held_15 (fun r3 σ3 h3 => ?_)
    obtain ⟨h3, rfl⟩ := h3
    rw [gE_ex g4] at h3
    refine gi_if_ne hC 23 dX3_held_18 (by decide) (fun h4 => ?_) (fun h4 => ?_)
    ·
      obtain ⟨e, he, rfl, hpe⟩ : ∃ j, j < 24 ∧ a = nI j ∧ ps j = true := by
        rcases h3 with ⟨-, z⟩ | ⟨z, -⟩
        · exact z
        · exact absurd z h4
      refine gi_aldn hC dX3_held_23 rfl ?_
      refine gi_ildn hC dX3_held_24 rfl ?_
      refine gk_VR (n := 1) hC (fun l => c_X3_packed l E σ3 n ps U V hI kk hk) (gm_o3 E) rfl (gw_V gw_186 gw_188 gw_1 gw_23 gw_189) rfl ⟨rfl, rfl⟩ rfl (by decide +kernel) ⟨by decide, by decide⟩ (Nat.le_of_ble_eq_true rfl) dX3_held_25 (fun σ2 h9 => ?_)
      obtain ⟨h9f, q, sz, fol, hP⟩ := h9
      have hI2 := kInv_up bl_blk h9f hI (kP_kI hP)
      have hfr := kFR_blk bl_blk h9f
      obtain ⟨p1, p2⟩ := hP.2.2.2.2.1.1 e he
      refine gf_P_place hC hk gw_90 dX3_held_28 ?_
      refine gi_ildn hC dX3_held_31 rfl ?_
      refine gi_iald hC (gm_iR E hk 1 (by decide) (by decide)) he rfl (by first | decide | omega) dX3_held_32 ?_
      rw [p1]
      refine gi_const hC (v := -1) dX3_held_33 (by decide) ?_
      refine gi_icmp_eq hC 41 dX3_held_34 (by decide) (fun h5 => ?_) (fun h5 => ?_)
      ·
        have hq := (oI_m1 (oI_in p2 (by omega))).mp h5
        refine gi_const hC (v := 0) dX3_held_41 (by decide) ?_
        exact hR _ _ _ _ rfl ⟨hfr, hI2, Or.inr ⟨kk, hk, rfl, Or.inr ⟨e, he, rfl, hpe, q, sz, _, hP.2.2.2.2.2.2, by rw [if_pos hq]⟩⟩⟩ dX3_held_42
      ·
        have hq : q.1 e ≠ none := fun z => h5 ((oI_m1 (oI_in p2 (by omega))).mpr z)
        refine gi_const hC (v := 1) dX3_held_37 (by decide) ?_
        refine gi_goto hC 42 dX3_held_38 (by decide) ?_
        exact hR _ _ _ _ rfl ⟨hfr, hI2, Or.inr ⟨kk, hk, rfl, Or.inr ⟨e, he, rfl, hpe, q, sz, _, hP.2.2.2.2.2.2, by rw [if_neg hq]⟩⟩⟩ dX3_held_42
    ·
      have hna : ¬ ∃ j, j < 24 ∧ a = nI j ∧ ps j = true := by
        rcases h3 with ⟨z, -⟩ | ⟨-, z⟩
        · rw [z] at h4; exact absurd h4 (by decide)
        · exact z
      refine gi_const hC (v := -1) dX3_held_21 (by decide) ?_
      exact hR _ _ _ _ rfl ⟨kFR_rf, hI, Or.inr ⟨kk, hk, rfl, Or.inl ⟨rfl, hna⟩⟩⟩ dX3_held_22
  ·
    have hn : ¬ ∃ j, j < 7 ∧ k = nI j := by
      rcases h1 with ⟨z, -⟩ | ⟨-, z⟩
      · rw [z] at h2; exact absurd h2 (by decide)
      · exact z
    refine gi_bipush hC (v := -2) dX3_held_7 (by decide) ?_
    exact hR _ _ _ _ rfl ⟨kFR_rf, hI, Or.inl ⟨rfl, hn⟩⟩ dX3_held_9
set_option maxHeartbeats 4000000 in
set_option maxRecDepth 100000 in
theorem c_X3_forest (l : Launch) (E : gm_E) (σ : gm_S) (n : Nat) (ps : Nat → Bool) (U V : Nat → Nat) (hI : kInv σ n ps U V) (k a : Int32) : gm_MI l E yX3_forest (.code yX3_forest cX3_forest 4 (some .int) :: gw_T) { frames := 5, cells := 0, slots := 0, locals := 128 } [.ref (E.2.2 0), .int k, .int a] σ (fun r σ2 => kFR σ σ2 ∧ kInv σ2 n ps U V ∧ ((r = -2 ∧ ¬ ∃ j, j < 7 ∧ k = nI j) ∨ ∃ kk, kk < 7 ∧ k = nI kk ∧ ((r = -1 ∧ ¬ ∃ e, e < 24 ∧ a = nI e ∧ ps e = true) ∨ ∃ e, e < 24 ∧ a = nI e ∧ ps e = true ∧ ∃ q sz, pkd kk U V ps q sz True ∧ r = oI (q.1 e)))) := by
  refine gm_enterI RX3 (by decide +kernel) rfl rfl (Nat.le_of_ble_eq_true rfl) (gm_c1_ok rfl) ?_
  intro X hC hR
  show gm_G X E 4 0 [some (.ref (E.2.2 0)), some (.int k), some (.int a), none] [] σ
  obtain ⟨g1, g2, g3, g4, g5, g6, g7⟩ := id hI.1
  refine gi_ildn hC dX3_forest_0 rfl ?_
  refine gk_SI (n := 1) hC (fun l => c_X3_isForestCount l E σ k) (gw_S gw_183 gw_184 gw_23 gw_185) rfl ⟨rfl, rfl⟩ rfl (by decide +kernel) ⟨by decide, by decide⟩ (Nat.le_of_ble_eq_true rfl) dX3_forest_1 (fun r σ1 h1 => ?_)
  obtain ⟨h1, rfl⟩ := h1
  refine gi_if_ne hC 10 dX3_forest_4 (by decide) (fun h2 => ?_) (fun h2 => ?_)
  ·
    obtain ⟨kk, hk, rfl⟩ : ∃ j, j < 7 ∧ k = nI j := by
      rcases h1 with ⟨-, z⟩ | ⟨z, -⟩
      · exact z
      · exact absurd z h2
    refine gi_aldn hC dX3_forest_10 rfl ?_
    refine gf_K_graph hC gw_129 dX3_forest_11 ?_
    refine gi_ildn hC dX3_forest_14 rfl ?_
    refine gk_VI (n := 1) hC (fun l => c_X0_hasEdge l E σ1 a) (gm_o0 E) rfl (gw_V gw_178 gw_167 gw_168 gw_24 gw_169) rfl ⟨rfl, rfl⟩ rfl (by decide +kernel) ⟨by decide, by decide⟩ (Nat.le_of_ble_eq_true rfl) dX3_forest_15 (fun r3 σ3 h3 => ?_)
    obtain ⟨h3, rfl⟩ := h3
    rw [gE_ex g4] at h3
    refine gi_if_ne hC 23 dX3_forest_18 (by decide) (fun h4 => ?_) (fun h4 => ?_)
    ·
      obtain ⟨e, he, rfl, hpe⟩ : ∃ j, j < 24 ∧ a = nI j ∧ ps j = true := by
        rcases h3 with ⟨-, z⟩ | ⟨z, -⟩
        · exact z
        · exact absurd z h4
      refine gi_aldn hC dX3_forest_23 rfl ?_
      refine gi_ildn hC dX3_forest_24 rfl ?_
      refine gk_VR (n := 1) hC (fun l => c_X3_packed l E σ3 n ps U V hI kk hk) (gm_o3 E) rfl (gw_V gw_186 gw_188 gw_1 gw_23 gw_189) rfl ⟨rfl, rfl⟩ rfl (by decide +kernel) ⟨by decide, by decide⟩ (Nat.le_of_ble_eq_true rfl) dX3_forest_25 (fun σ2 h9 => ?_)
      obtain ⟨h9f, q, sz, fol, hP⟩ := h9
      have hI2 := kInv_up bl_blk h9f hI (kP_kI hP)
      have hfr := kFR_blk bl_blk h9f
      obtain ⟨b1, b2, b3, b4, b5, b6, b7⟩ := id hP
      refine gi_astn_3 hC dX3_forest_28 (by decide) ?_
      refine gi_aldn hC dX3_forest_29 rfl ?_
      refine gi_aldn hC dX3_forest_30 rfl ?_
      refine gf_K_graph hC gw_129 dX3_forest_31 ?_
      refine gk_VV (n := 1) hC (fun l => c_X1_settle l E hk σ2 U V (gL_mv h9f g6) ps (ps_fr bl_blk h9f g4) q b5 b1 b3 fol b2) (gm_o1 E hk) rfl (gw_V gw_247 gw_248 gw_249 gw_25 gw_250) rfl ⟨rfl, rfl⟩ rfl (by decide +kernel) ⟨by decide, by decide⟩ (Nat.le_of_ble_eq_true rfl) dX3_forest_34 (fun σ4 h5 => ?_)
      obtain ⟨d1, d2, d3, d4, d5⟩ := h5
      obtain ⟨q2, fol2, hz⟩ : ∃ q2 fol2, (if σ2.1 (gm_P kk) 4 = 1 then (q, fol) else st_out kk U V ps 24 0 (fun _ => false) (q, fol)) = (q2, fol2) := ⟨_, _, rfl⟩
      rw [hz] at d2 d3
      have hpk : pkd kk U V ps q2 sz True := by
        rcases b7 with ⟨c1, fo, fo2, c2⟩ | ⟨c1, c2⟩
        · rw [if_neg c1] at hz
          exact Or.inr ⟨trivial, q, fo, fo2, fol, fol2, c2, hz⟩
        · rw [if_pos c1] at hz
          cases hz
          exact Or.inr ⟨trivial, c2⟩
      have hP4 : kP σ4 U V ps kk q2 sz fol2 := by
        refine ⟨d4, d3, Or.inr d5, ?_, d2, ?_, ?_⟩
        · rw [d1.1 _ 2 (fun z => by rcases z.2 with z | z | z | z | z | z <;> cases z)]; exact b4
        · rw [d1.1 _ 1 (fun z => by rcases z.2 with z | z | z | z | z | z <;> cases z)]; exact b6
        · rw [d5]; simpa using hpk
      have hI4 := kInv_up st_blk d1 hI2 (kP_kI hP4)
      obtain ⟨p1, p2⟩ := d2.1 e he
      refine gi_aldn hC dX3_forest_37 rfl ?_
      refine gf_P_place hC hk gw_90 dX3_forest_38 ?_
      refine gi_ildn hC dX3_forest_41 rfl ?_
      refine gi_iald hC (gm_iR E hk 1 (by decide) (by decide)) he rfl (by first | decide | omega) dX3_forest_42 ?_
      rw [p1]
      exact hR _ _ _ _ rfl ⟨kFR_tr hfr (kFR_blk st_blk d1), hI4, Or.inr ⟨kk, hk, rfl, Or.inr ⟨e, he, rfl, hpe, q2, sz, hpk, rfl⟩⟩⟩ dX3_forest_43
    ·
      have hna : ¬ ∃ j, j < 24 ∧ a = nI j ∧ ps j = true := by
        rcases h3 with ⟨z, -⟩ | ⟨-, z⟩
        · rw [z] at h4; exact absurd h4 (by decide)
        · exact z
      refine gi_const hC (v := -1) dX3_forest_21 (by decide) ?_
      exact hR _ _ _ _ rfl ⟨kFR_rf, hI, Or.inr ⟨kk, hk, rfl, Or.inl ⟨rfl, hna⟩⟩⟩ dX3_forest_22
  ·
    have hn : ¬ ∃ j, j < 7 ∧ k = nI j := by
      rcases h1 with ⟨z, -⟩ | ⟨-, z⟩
      · rw [z] at h2; exact absurd h2 (by decide)
      · exact z
    refine gi_bipush hC (v := -2) dX3_forest_7 (by decide) ?_
    exact hR _ _ _ _ rfl ⟨kFR_rf, hI, Or.inl ⟨rfl, hn⟩⟩ dX3_forest_9
set_option maxHeartbeats 4000000 in
set_option maxRecDepth 100000 in
theorem c_X3_tight (l : Launch) (E : gm_E) (σ : gm_S) (n : Nat) (ps : Nat → Bool) (U V : Nat → Nat) (hI : kInv σ n ps U V) (k a b : Int32) : gm_MI l E yX3_tight (.code yX3_tight cX3_tight 4 (some .int) :: gw_T) { frames := 5, cells := 0, slots := 0, locals := 122 } [.ref (E.2.2 0), .int k, .int a, .int b] σ (fun r σ2 => kFR σ σ2 ∧ kInv σ2 n ps U V ∧ ((r = -2 ∧ ¬ ((∃ j, j < 7 ∧ k = nI j) ∧ (∃ i, i < n ∧ a = nI i) ∧ ∃ j, j < n ∧ b = nI j)) ∨ ∃ kk i j, kk < 7 ∧ k = nI kk ∧ i < n ∧ a = nI i ∧ j < n ∧ b = nI j ∧ ∃ q sz b fol, pkd kk U V ps q sz b ∧ r = if (fnd kk U V ps q (fun _ => false) i j fol).1 = none then 1 else 0)) := by
  refine gm_enterI RX3 (by decide +kernel) rfl rfl (Nat.le_of_ble_eq_true rfl) (gm_c1_ok rfl) ?_
  intro X hC hR
  show gm_G X E 4 0 [some (.ref (E.2.2 0)), some (.int k), some (.int a), some (.int b)] [] σ
  obtain ⟨g1, g2, g3, g4, g5, g6, g7⟩ := id hI.1
  refine gi_ildn hC dX3_tight_0 rfl ?_
  refine gk_SI (n := 1) hC (fun l => c_X3_isForestCount l E σ k) (gw_S gw_183 gw_184 gw_23 gw_185) rfl ⟨rfl, rfl⟩ rfl (by decide +kernel) ⟨by decide, by decide⟩ (Nat.le_of_ble_eq_true rfl) dX3_tight_1 (fun r σ1 h1 => ?_)
  obtain ⟨h1, rfl⟩ := h1
  refine gi_if_eq hC 29 dX3_tight_4 (by decide) (fun h2 => ?_) (fun h2 => ?_)
  ·
    have hn : ¬ ∃ j, j < 7 ∧ k = nI j := by
      rcases h1 with ⟨z, -⟩ | ⟨-, z⟩
      · rw [z] at h2; exact absurd h2 (by decide)
      · exact z
    refine gi_bipush hC (v := -2) dX3_tight_29 (by decide) ?_
    exact hR _ _ _ _ rfl ⟨kFR_rf, hI, Or.inl ⟨rfl, fun z => hn z.1⟩⟩ dX3_tight_31
  ·
    obtain ⟨kk, hk, rfl⟩ : ∃ j, j < 7 ∧ k = nI j := by
      rcases h1 with ⟨-, z⟩ | ⟨z, -⟩
      · exact z
      · exact absurd z h2
    refine gi_aldn hC dX3_tight_7 rfl ?_
    refine gf_K_graph hC gw_129 dX3_tight_8 ?_
    refine gi_ildn hC dX3_tight_11 rfl ?_
    refine gk_VI (n := 1) hC (fun l => c_X0_hasVertex l E σ1 a) (gm_o0 E) rfl (gw_V gw_158 gw_159 gw_160 gw_24 gw_161) rfl ⟨rfl, rfl⟩ rfl (by decide +kernel) ⟨by decide, by decide⟩ (Nat.le_of_ble_eq_true rfl) dX3_tight_12 (fun r3 σ3 h3 => ?_)
    obtain ⟨h3, rfl⟩ := h3
    rw [g3, nI_vx g2] at h3
    refine gi_if_eq hC 29 dX3_tight_15 (by decide) (fun h4 => ?_) (fun h4 => ?_)
    ·
      have hn : ¬ ∃ j, j < n ∧ a = nI j := by
        rcases h3 with ⟨z, -⟩ | ⟨-, z⟩
        · rw [z] at h4; exact absurd h4 (by decide)
        · exact z
      refine gi_bipush hC (v := -2) dX3_tight_29 (by decide) ?_
      exact hR _ _ _ _ rfl ⟨kFR_rf, hI, Or.inl ⟨rfl, fun z => hn z.2.1⟩⟩ dX3_tight_31
    ·
      obtain ⟨i, hi2, rfl⟩ : ∃ j, j < n ∧ a = nI j := by
        rcases h3 with ⟨-, z⟩ | ⟨z, -⟩
        · exact z
        · exact absurd z h4
      refine gi_aldn hC dX3_tight_18 rfl ?_
      refine gf_K_graph hC gw_129 dX3_tight_19 ?_
      refine gi_ildn hC dX3_tight_22 rfl ?_
      refine gk_VI (n := 1) hC (fun l => c_X0_hasVertex l E σ3 b) (gm_o0 E) rfl (gw_V gw_158 gw_159 gw_160 gw_24 gw_161) rfl ⟨rfl, rfl⟩ rfl (by decide +kernel) ⟨by decide, by decide⟩ (Nat.le_of_ble_eq_true rfl) dX3_tight_23 (fun r5 σ5 h5 => ?_)
      obtain ⟨h5, rfl⟩ := h5
      rw [g3, nI_vx g2] at h5
      refine gi_if_ne hC 32 dX3_tight_26 (by decide) (fun h6 => ?_) (fun h6 => ?_)
      ·
        obtain ⟨j, hj, rfl⟩ : ∃ j, j < n ∧ b = nI j := by
          rcases h5 with ⟨-, z⟩ | ⟨z, -⟩
          · exact z
          · exact absurd z h6
        refine gi_aldn hC dX3_tight_32 rfl ?_
        refine gi_ildn hC dX3_tight_33 rfl ?_
        refine gk_VR (n := 1) hC (fun l => c_X3_packed l E σ5 n ps U V hI kk hk) (gm_o3 E) rfl (gw_V gw_186 gw_188 gw_1 gw_23 gw_189) rfl ⟨rfl, rfl⟩ rfl (by decide +kernel) ⟨by decide, by decide⟩ (Nat.le_of_ble_eq_true rfl) dX3_tight_34 (fun σ2 h9 => ?_)
        obtain ⟨h9f, q, sz, fol, hP⟩ := h9
        have hI2 := kInv_up bl_blk h9f hI (kP_kI hP)
        have hfr := kFR_blk bl_blk h9f
        refine gi_aldn hC dX3_tight_37 rfl ?_
        refine gf_K_graph hC gw_129 dX3_tight_38 ?_
        refine gi_ildn hC dX3_tight_41 rfl ?_
        refine gi_ildn hC dX3_tight_42 rfl ?_
        refine gk_VI (n := 3) hC (fun l => c_X1_findRoom l E hk σ2 U V (gL_mv h9f g6) ps (ps_fr bl_blk h9f g4) q hP.2.2.2.2.1 (fun _ => false) (kfx hP) fol hP.2.1 i j (by omega) (by omega)) (gm_o1 E hk) rfl (gw_V gw_271 gw_204 gw_205 gw_25 gw_206) rfl ⟨rfl, rfl⟩ rfl (by decide +kernel) ⟨by decide, by decide⟩ (Nat.le_of_ble_eq_true rfl) dX3_tight_43 (fun r7 σ7 h7 => ?_)
        obtain ⟨c1, c2⟩ := h7
        obtain ⟨Z, hZ⟩ : ∃ Z, Z = fnd kk U V ps q (fun _ => false) i j fol := ⟨_, rfl⟩
        rw [← hZ] at c2
        have hP7 := kP_sr hk c1 hP c2.1.2.2.2.2
        have hI7 := kInv_up sr_blk (mv_sr c1) hI2 (kP_kI hP7)
        have hfr7 := kFR_tr hfr (kFR_blk sr_blk (mv_sr c1))
        obtain ⟨z1, z2⟩ := Z
        cases z1 with
        | some w =>
          obtain ⟨lm, t⟩ := w
          obtain ⟨c3, rfl, -⟩ := c2
          refine gi_if_eq hC 53 dX3_tight_46 (by decide) (fun h8 => ?_) (fun h8 => ?_)
          · exact absurd h8 (by decide)
          ·
            refine gi_const hC (v := 0) dX3_tight_49 (by decide) ?_
            refine gi_goto hC 54 dX3_tight_50 (by decide) ?_
            exact hR _ _ _ _ rfl ⟨hfr7, hI7, Or.inr ⟨kk, i, j, hk, rfl, hi2, rfl, hj, rfl, q, sz, _, fol, hP.2.2.2.2.2.2, by rw [← hZ]; rfl⟩⟩ dX3_tight_54
        | none =>
          obtain ⟨c3, c4⟩ := c2
          have c4 : r7 = 0 := c4
          subst c4
          refine gi_if_eq hC 53 dX3_tight_46 (by decide) (fun h8 => ?_) (fun h8 => ?_)
          ·
            refine gi_const hC (v := 1) dX3_tight_53 (by decide) ?_
            exact hR _ _ _ _ rfl ⟨hfr7, hI7, Or.inr ⟨kk, i, j, hk, rfl, hi2, rfl, hj, rfl, q, sz, _, fol, hP.2.2.2.2.2.2, by rw [← hZ]; rfl⟩⟩ dX3_tight_54
          · exact absurd rfl h8
      ·
        have hn : ¬ ∃ j, j < n ∧ b = nI j := by
          rcases h5 with ⟨z, -⟩ | ⟨-, z⟩
          · rw [z] at h6; exact absurd h6 (by decide)
          · exact z
        refine gi_bipush hC (v := -2) dX3_tight_29 (by decide) ?_
        exact hR _ _ _ _ rfl ⟨kFR_rf, hI, Or.inl ⟨rfl, fun z => hn z.2.2⟩⟩ dX3_tight_31
