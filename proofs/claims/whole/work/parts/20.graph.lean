/-! THE GRAPH: its methods -/
/-- the bit of e, as hasEdge asks for it -/
def gE_has (p e : Int32) : Prop := ¬ e < 0 ∧ ¬ (24 : Int32) ≤ e ∧ (p >>> (e &&& 31)) &&& 1 = 1
theorem gE_has_nI {p : Int32} {j : Nat} (hj : j < 24) : gE_has p (nI j) ↔ bt p j = true := by
  constructor
  · exact fun h => (b_tst1 p (by omega)).mp h.2.2
  · intro h
    refine ⟨nI_pos (by omega), fun q => ?_, (b_tst1 p (by omega)).mpr h⟩
    have := (nI_leI (a := 24) (b := j) (by omega) (by omega)).mp q
    omega
theorem gE_has_j {p e : Int32} (h : gE_has p e) : ∃ j, j < 24 ∧ e = nI j := by
  obtain ⟨j, h1, h2⟩ := nI_of h.1
  subst h2
  exact ⟨j, by have := h.2.1; rw [show (24 : Int32) = nI 24 from rfl, nI_leI (by omega) h1] at this; omega, rfl⟩
theorem gE_ex {p e : Int32} {ps : Nat → Bool} (hb : bm p ps) : gE_has p e ↔ ∃ j, j < 24 ∧ e = nI j ∧ ps j = true := by
  constructor
  · intro h
    obtain ⟨j, hj, rfl⟩ := gE_has_j h
    exact ⟨j, hj, rfl, by rw [← hb j (by omega)]; exact (gE_has_nI hj).mp h⟩
  · rintro ⟨j, hj, rfl, h⟩
    exact (gE_has_nI hj).mpr (by rw [hb j (by omega)]; exact h)
set_option maxHeartbeats 4000000 in
set_option maxRecDepth 100000 in
theorem c_X0_hasVertex (l : Launch) (E : gm_E) (σ : gm_S) (v : Int32) : gm_MI l E yX0_hasVertex (.code yX0_hasVertex cX0_hasVertex 2 (some .boolean) :: gw_T) { frames := 0, cells := 0, slots := 0, locals := 0 } [.ref (E.2.2 1), .int v] σ (fun r σ2 => (r = 1 ∧ (¬ v < 0 ∧ ¬ σ.1 1 3 ≤ v) ∨ r = 0 ∧ ¬ (¬ v < 0 ∧ ¬ σ.1 1 3 ≤ v)) ∧ σ2 = σ) := by
  refine gm_enterI RX0 (by decide +kernel) rfl rfl (Nat.le_of_ble_eq_true rfl) (gm_c1_ok rfl) ?_
  intro X hC hR
  show gm_G X E 2 0 [some (.ref (E.2.2 1)), some (.int v)] [] σ
  refine gi_ildn hC dX0_hasVertex_0 rfl ?_
  refine gi_if_lt hC 16 dX0_hasVertex_1 (by decide) (fun h1 => ?_) (fun h1 => ?_)
  · refine gi_const hC (v := 0) dX0_hasVertex_16 (by decide) ?_
    exact hR _ _ _ _ (by decide +kernel) ⟨Or.inr ⟨rfl, fun h => h.1 h1⟩, rfl⟩ dX0_hasVertex_17
  ·
    refine gi_ildn hC dX0_hasVertex_4 rfl ?_
    refine gi_aldn hC dX0_hasVertex_5 rfl ?_
    refine gf_G_vertices hC gw_53 dX0_hasVertex_6 ?_
    refine gi_icmp_ge hC 16 dX0_hasVertex_9 (by decide) (fun h2 => ?_) (fun h2 => ?_)
    · refine gi_const hC (v := 0) dX0_hasVertex_16 (by decide) ?_
      exact hR _ _ _ _ (by decide +kernel) ⟨Or.inr ⟨rfl, fun h => h.2 h2⟩, rfl⟩ dX0_hasVertex_17
    ·
      refine gi_const hC (v := 1) dX0_hasVertex_12 (by decide) ?_
      refine gi_goto hC 17 dX0_hasVertex_13 (by decide) ?_
      exact hR _ _ _ _ (by decide +kernel) ⟨Or.inl ⟨rfl, h1, h2⟩, rfl⟩ dX0_hasVertex_17
set_option maxHeartbeats 4000000 in
set_option maxRecDepth 100000 in
theorem c_X0_hasEdge (l : Launch) (E : gm_E) (σ : gm_S) (e : Int32) : gm_MI l E yX0_hasEdge (.code yX0_hasEdge cX0_hasEdge 2 (some .boolean) :: gw_T) { frames := 0, cells := 0, slots := 0, locals := 0 } [.ref (E.2.2 1), .int e] σ (fun r σ2 => (r = 1 ∧ gE_has (σ.1 1 2) e ∨ r = 0 ∧ ¬ gE_has (σ.1 1 2) e) ∧ σ2 = σ) := by
  refine gm_enterI RX0 (by decide +kernel) rfl rfl (Nat.le_of_ble_eq_true rfl) (gm_c1_ok rfl) ?_
  intro X hC hR
  show gm_G X E 2 0 [some (.ref (E.2.2 1)), some (.int e)] [] σ
  refine gi_ildn hC dX0_hasEdge_0 rfl ?_
  refine gi_if_lt hC 26 dX0_hasEdge_1 (by decide) (fun h1 => ?_) (fun h1 => ?_)
  · refine gi_const hC (v := 0) dX0_hasEdge_26 (by decide) ?_
    exact hR _ _ _ _ (by decide +kernel) ⟨Or.inr ⟨rfl, fun h => h.1 h1⟩, rfl⟩ dX0_hasEdge_27
  ·
    refine gi_ildn hC dX0_hasEdge_4 rfl ?_
    refine gi_bipush hC (v := 24) dX0_hasEdge_5 (by decide) ?_
    refine gi_icmp_ge hC 26 dX0_hasEdge_7 (by decide) (fun h2 => ?_) (fun h2 => ?_)
    · refine gi_const hC (v := 0) dX0_hasEdge_26 (by decide) ?_
      exact hR _ _ _ _ (by decide +kernel) ⟨Or.inr ⟨rfl, fun h => h.2.1 h2⟩, rfl⟩ dX0_hasEdge_27
    ·
      refine gi_aldn hC dX0_hasEdge_10 rfl ?_
      refine gf_G_present hC gw_51 dX0_hasEdge_11 ?_
      refine gi_ildn hC dX0_hasEdge_14 rfl ?_
      refine gi_ishr hC dX0_hasEdge_15 ?_
      refine gi_const hC (v := 1) dX0_hasEdge_16 (by decide) ?_
      refine gi_iand hC dX0_hasEdge_17 ?_
      refine gi_const hC (v := 1) dX0_hasEdge_18 (by decide) ?_
      refine gi_icmp_ne hC 26 dX0_hasEdge_19 (by decide) (fun h3 => ?_) (fun h3 => ?_)
      · refine gi_const hC (v := 0) dX0_hasEdge_26 (by decide) ?_
        exact hR _ _ _ _ (by decide +kernel) ⟨Or.inr ⟨rfl, fun h => h3 h.2.2⟩, rfl⟩ dX0_hasEdge_27
      ·
        refine gi_const hC (v := 1) dX0_hasEdge_22 (by decide) ?_
        refine gi_goto hC 27 dX0_hasEdge_23 (by decide) ?_
        exact hR _ _ _ _ (by decide +kernel) ⟨Or.inl ⟨rfl, h1, h2, h3⟩, rfl⟩ dX0_hasEdge_27
set_option maxHeartbeats 4000000 in
set_option maxRecDepth 100000 in
theorem c_X0_leastFree (l : Launch) (E : gm_E) (σ : gm_S) : gm_MI l E yX0_leastFree (.code yX0_leastFree cX0_leastFree 2 (some .int) :: gw_T) { frames := 1, cells := 0, slots := 0, locals := 21 } [.ref (E.2.2 1)] σ (fun r σ2 => σ2 = σ ∧ ((∃ j, j < 24 ∧ r = nI j ∧ bt (σ.1 1 2) j = false ∧ ∀ i, i < j → bt (σ.1 1 2) i = true) ∨ (r = -1 ∧ ∀ i, i < 24 → bt (σ.1 1 2) i = true))) := by
  refine gm_enterI RX0 (by decide +kernel) rfl rfl (Nat.le_of_ble_eq_true rfl) (gm_c1_ok rfl) ?_
  intro X hC hR
  show gm_G X E 2 0 [some (.ref (E.2.2 1)), none] [] σ
  have L : ∀ n i, i + n = 24 → (∀ j, j < i → bt (σ.1 1 2) j = true) → gm_G X E 2 2 [some (.ref (E.2.2 1)), some (.int (nI i))] [] σ := by
    intro n
    induction n with
    | zero =>
      intro i hi hb
      have hi : i = 24 := by omega
      subst hi
      refine gi_ildn hC dX0_leastFree_2 rfl ?_
      refine gi_bipush hC (v := 24) dX0_leastFree_3 (by decide) ?_
      refine gi_icmp_ge hC 24 dX0_leastFree_5 (by decide) (fun h1 => ?_) (fun h1 => ?_)
      ·
        refine gi_const hC (v := -1) dX0_leastFree_24 (by decide) ?_
        exact hR _ _ _ _ rfl ⟨rfl, Or.inr ⟨rfl, hb⟩⟩ dX0_leastFree_25
      · exact absurd (Int32.le_refl _) h1
    | succ n ih =>
      intro i hi hb
      refine gi_ildn hC dX0_leastFree_2 rfl ?_
      refine gi_bipush hC (v := 24) dX0_leastFree_3 (by decide) ?_
      refine gi_icmp_ge hC 24 dX0_leastFree_5 (by decide) (fun h1 => ?_) (fun h1 => ?_)
      · exact absurd h1 (nI_ge (a := i) (b := 24) (by omega) (by omega))
      ·
        refine gi_aldn hC dX0_leastFree_8 rfl ?_
        refine gi_ildn hC dX0_leastFree_9 rfl ?_
        refine gk_VI (n := 1) hC (fun l => c_X0_hasEdge l E σ (nI i)) (gm_o0 E) rfl (gw_V gw_166 gw_167 gw_168 gw_24 gw_169) rfl ⟨rfl, rfl⟩ rfl (by decide +kernel) ⟨by decide, by decide⟩ (Nat.le_of_ble_eq_true rfl) dX0_leastFree_10 (fun r σ2 hq => ?_)
        obtain ⟨hq, rfl⟩ := hq
        refine gi_if_ne hC 18 dX0_leastFree_13 (by decide) (fun h2 => ?_) (fun h2 => ?_)
        ·
          have hbi : bt (σ2.1 1 2) i = true := by
            rcases hq with ⟨-, g⟩ | ⟨g, -⟩
            · exact (gE_has_nI (by omega)).mp g
            · exact absurd g h2
          refine gi_iinc_1 hC dX0_leastFree_18 (nI_1 i) (by decide) ?_
          refine gi_goto hC 2 dX0_leastFree_21 (by decide) ?_
          exact ih (i + 1) (by omega) (fun j hj => by
            rcases Nat.lt_or_ge j i with q | q
            · exact hb j q
            · rw [show j = i by omega]; exact hbi)
        ·
          have hbi : bt (σ2.1 1 2) i = false := by
            rcases hq with ⟨g, -⟩ | ⟨-, g⟩
            · rw [g] at h2; exact absurd h2 (by decide)
            · cases hbb : bt (σ2.1 1 2) i
              · rfl
              · exact absurd ((gE_has_nI (by omega)).mpr hbb) g
          refine gi_ildn hC dX0_leastFree_16 rfl ?_
          exact hR _ _ _ _ rfl ⟨rfl, Or.inl ⟨i, by omega, rfl, hbi, hb⟩⟩ dX0_leastFree_17
  refine gi_const hC (v := 0) dX0_leastFree_0 (by decide) ?_
  refine gi_istn_1 hC dX0_leastFree_1 (by decide) ?_
  exact L 24 0 rfl (fun j hj => absurd hj (Nat.not_lt_zero j))
