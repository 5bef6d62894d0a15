/-! pack; the graph's counts -/
def blk_F (k x j : Nat) : Prop := x = gm_P k
theorem fr_blk {σ σ2 : gm_S} {k : Nat} {F : Nat → Nat → Prop} (hF : ∀ x j, F x j → x = gm_P k) (h : gm_fr σ σ2 F (mv_R k)) : gm_fr σ σ2 (blk_F k) (mv_R k) := gm_fr_mono h hF (fun _ z => z)
theorem gL_blk {σ σ2 : gm_S} {U V : Nat → Nat} {k : Nat} {F : Nat → Nat → Prop} (h : gm_fr σ σ2 F (mv_R k)) (g : gL σ U V) : gL σ2 U V := gL_mv h g
def vs_lp (U V : Nat → Nat) (S : Nat → Bool) : Nat → Nat → (Nat → Bool) → (Nat → Bool)
  | 0, _, T => T
  | n + 1, e, T => if S e = true then vs_lp U V S n (e + 1) (fun i => T i || (decide (i = U e) || decide (i = V e))) else vs_lp U V S n (e + 1) T
def am_lp (U V : Nat → Nat) (ps S : Nat → Bool) : Nat → Nat → Nat → Nat
  | 0, _, c => c
  | n + 1, e, c => if ps e = true ∧ S (U e) = true ∧ S (V e) = true then am_lp U V ps S n (e + 1) (c + 1) else am_lp U V ps S n (e + 1) c
theorem vs_lp_no (U V : Nat → Nat) {S : Nat → Bool} : ∀ n e T, (∀ i, e ≤ i → i < e + n → S i = false) → vs_lp U V S n e T = T
  | 0, _, _, _ => rfl
  | n + 1, e, T, h => by
    rw [vs_lp, if_neg (by rw [h e (Nat.le_refl e) (by omega)]; exact Bool.false_ne_true)]
    exact vs_lp_no U V n (e + 1) T (fun i h1 h2 => h i (by omega) (by omega))
theorem vs_lp_one (U V : Nat → Nat) (d : Nat) : ∀ n e T, e ≤ d → d < e + n → vs_lp U V (fun i => decide (i = d)) n e T = (fun i => T i || (decide (i = U d) || decide (i = V d)))
  | 0, e, T, h1, h2 => by omega
  | n + 1, e, T, h1, h2 => by
    rw [vs_lp]
    by_cases h : e = d
    · subst h
      rw [if_pos (by simp), vs_lp_no U V n (e + 1) _ (fun i a _ => by simp; omega)]
    · rw [if_neg (by simp [h])]
      exact vs_lp_one U V d n (e + 1) T (by omega) (by omega)
theorem am_lp_le (U V : Nat → Nat) (ps S : Nat → Bool) : ∀ n e c, am_lp U V ps S n e c ≤ c + n
  | 0, _, c => Nat.le_refl c
  | n + 1, e, c => by
    rw [am_lp]
    split
    · have := am_lp_le U V ps S n (e + 1) (c + 1); omega
    · have := am_lp_le U V ps S n (e + 1) c; omega
/-- Integer.bitCount's own formula -/
def jus (x y : Int32) : Int32 := (x.toUInt32 >>> (y.toUInt32 &&& Int32.toUInt32 31)).toInt32
def jb1 (x : Int32) : Int32 := x - ((jus x 1) &&& 1431655765)
def jb2 (x : Int32) : Int32 := (x &&& 858993459) + ((jus x 2) &&& 858993459)
def jb3 (x : Int32) : Int32 := (x + jus x 4) &&& 252645135
def jb4 (x : Int32) : Int32 := x + jus x 8
def jb5 (x : Int32) : Int32 := x + jus x 16
def jbc (x : Int32) : Int32 := jb5 (jb4 (jb3 (jb2 (jb1 x)))) &&& 63
set_option maxHeartbeats 4000000 in
set_option maxRecDepth 100000 in
theorem c_X1_pack (l : Launch) (E : gm_E) {kk : Nat} (hk : kk < 7) (σ : gm_S) (U V : Nat → Nat) (hg : gL σ U V) (ps : Nat → Bool) (hb : bm (σ.1 1 2) ps) (hfx : σ.1 (gm_P kk) 5 = 0) (fol : Nat → Option Nat) (hfo : fo_rep σ kk fol) : gm_MV l E yX1_pack (.code yX1_pack cX1_pack 3 none :: gw_T) { frames := 3, cells := 0, slots := 0, locals := 78 } [.ref (E.2.2 (gm_P kk)), .ref (E.2.2 1)] σ (fun σ2 => gm_fr σ σ2 (blk_F kk) (mv_R kk) ∧ pk_rep σ2 kk (pk_lp kk U V ps 24 0 (pq0, 0, fol)).1 ∧ fo_rep σ2 kk (pk_lp kk U V ps 24 0 (pq0, 0, fol)).2.2 ∧ σ2.1 (gm_P kk) 1 = nI (pk_lp kk U V ps 24 0 (pq0, 0, fol)).2.1 ∧ σ2.1 (gm_P kk) 2 = 1 ∧ σ2.1 (gm_P kk) 4 = 0 ∧ σ2.1 (gm_P kk) 5 = 0) := by
  refine gm_enterV RX1 (by decide +kernel) rfl rfl (Nat.le_of_ble_eq_true rfl) (gm_c1_ok rfl) ?_
  intro X hC hR
  show gm_G X E 3 0 [some (.ref (E.2.2 (gm_P kk))), some (.ref (E.2.2 1)), none] [] σ
  obtain ⟨Z, hZ⟩ : ∃ Z, Z = pk_lp kk U V ps 24 0 (pq0, 0, fol) := ⟨_, rfl⟩
  rw [← hZ] at hR
  have LP : ∀ n i (z : pq × Nat × (Nat → Option Nat)) (σ2 : gm_S), i + n = 24 → gm_fr σ σ2 (blk_F kk) (mv_R kk) → pk_rep σ2 kk z.1 → fo_rep σ2 kk z.2.2 → σ2.1 (gm_P kk) 1 = nI z.2.1 → σ2.1 (gm_P kk) 5 = 0 → Z = pk_lp kk U V ps n i z → gm_G X E 3 41 [some (.ref (E.2.2 (gm_P kk))), some (.ref (E.2.2 1)), some (.int (nI i))] [] σ2 := by
    intro n
    induction n with
    | zero =>
      intro i z σ2 hi0 hfr hp2 hf2 hsz hfx2 hw
      have hi0 : i = 24 := by omega
      subst hi0
      rw [pk_lp] at hw
      subst hw
      refine gi_ildn hC dX1_pack_41 rfl ?_
      refine gi_bipush hC (v := 24) dX1_pack_42 (by decide) ?_
      refine gi_icmp_ge hC 97 dX1_pack_44 (by decide) (fun h1 => ?_) (fun h1 => ?_)
      ·
        refine gi_aldn hC dX1_pack_97 rfl ?_
        refine gi_const hC (v := 1) dX1_pack_98 (by decide) ?_
        refine pf_P_isPacked hC hk (by decide) gw_93 dX1_pack_99 ?_
        refine gi_aldn hC dX1_pack_102 rfl ?_
        refine gi_const hC (v := 0) dX1_pack_103 (by decide) ?_
        refine pf_P_isSettled hC hk (by decide) gw_96 dX1_pack_104 ?_
        refine hR _ _ _ ⟨gm_fr_tr hfr (gm_fr_tr (gm_fr_sc rfl) (gm_fr_sc rfl)), pk_fr hk (fun _ _ => rfl) hp2, hf2, ?_, ?_, gm_sc_1 _ _ _ _, ?_⟩ dX1_pack_107
        · rw [gm_sc_n _ _ (by omega), gm_sc_n _ _ (by omega)]; exact hsz
        · rw [gm_sc_n _ _ (by omega), gm_sc_1]
        · rw [gm_sc_n _ _ (by omega), gm_sc_n _ _ (by omega)]; exact hfx2
      · exact absurd (Int32.le_refl _) h1
    | succ n ih =>
      intro i z σ2 hi0 hfr hp2 hf2 hsz hfx2 hw
      have hb2 : bm (σ2.1 1 2) ps := by rw [hfr.1 1 2 (fun z => by unfold blk_F gm_P at z; omega)]; exact hb
      have hg2 := gL_mv hfr hg
      obtain ⟨g1, g2, g3, g4⟩ := hg2 i (by omega)
      rw [pk_lp] at hw
      have NX : ∀ (σ3 : gm_S) (z3 : pq × Nat × (Nat → Option Nat)), gm_fr σ σ3 (blk_F kk) (mv_R kk) → pk_rep σ3 kk z3.1 → fo_rep σ3 kk z3.2.2 → σ3.1 (gm_P kk) 1 = nI z3.2.1 → σ3.1 (gm_P kk) 5 = 0 → Z = pk_lp kk U V ps n (i + 1) z3 → gm_G X E 3 91 [some (.ref (E.2.2 (gm_P kk))), some (.ref (E.2.2 1)), some (.int (nI i))] [] σ3 := by
        intro σ3 z3 a1 a2 a3 a4 a5 a6
        refine gi_iinc_2 hC dX1_pack_91 (nI_1 i) (by decide) ?_
        refine gi_goto hC 41 dX1_pack_94 (by decide) ?_
        exact ih (i + 1) z3 σ3 (by omega) a1 a2 a3 a4 a5 a6
      refine gi_ildn hC dX1_pack_41 rfl ?_
      refine gi_bipush hC (v := 24) dX1_pack_42 (by decide) ?_
      refine gi_icmp_ge hC 97 dX1_pack_44 (by decide) (fun h1 => ?_) (fun h1 => ?_)
      · exact absurd h1 (nI_ge (a := i) (b := 24) (by omega) (by omega))
      ·
        refine gi_aldn hC dX1_pack_47 rfl ?_
        refine gi_ildn hC dX1_pack_48 rfl ?_
        refine gk_VI (n := 1) hC (fun l => c_X0_hasEdge l E σ2 (nI i)) (gm_o0 E) rfl (gw_V gw_202 gw_167 gw_168 gw_24 gw_169) rfl ⟨rfl, rfl⟩ rfl (by decide +kernel) ⟨by decide, by decide⟩ (Nat.le_of_ble_eq_true rfl) dX1_pack_49 (fun r σ3 hq => ?_)
        obtain ⟨hq, rfl⟩ := hq
        rw [gE_has_nI (by omega), hb2 i (by omega)] at hq
        refine gi_if_eq hC 91 dX1_pack_52 (by decide) (fun h2 => ?_) (fun h2 => ?_)
        ·
          have hpi : ¬ ps i = true := by
            rcases hq with ⟨a1, -⟩ | ⟨-, a1⟩
            · rw [a1] at h2; exact absurd h2 (by decide)
            · exact a1
          rw [if_neg hpi] at hw
          exact NX σ3 z hfr hp2 hf2 hsz hfx2 hw
        ·
          have hpi : ps i = true := by
            rcases hq with ⟨-, a1⟩ | ⟨a1, -⟩
            · exact a1
            · exact absurd a1 h2
          rw [if_pos hpi] at hw
          refine gi_aldn hC dX1_pack_55 rfl ?_
          refine gi_aldn hC dX1_pack_56 rfl ?_
          refine gi_aldn hC dX1_pack_57 rfl ?_
          refine gf_G_lesser hC gw_46 dX1_pack_58 ?_
          refine gi_ildn hC dX1_pack_61 rfl ?_
          refine gi_iald hC (gm_i2 E) (j := i) (by omega) rfl (by first | decide | omega) dX1_pack_62 ?_
          refine gi_aldn hC dX1_pack_63 rfl ?_
          refine gf_G_greater hC gw_49 dX1_pack_64 ?_
          refine gi_ildn hC dX1_pack_67 rfl ?_
          refine gi_iald hC (gm_i3 E) (j := i) (by omega) rfl (by first | decide | omega) dX1_pack_68 ?_
          rw [g1, g2]
          refine gk_VI (n := 3) hC (fun l => c_X1_findRoom l E hk σ3 U V hg2 ps hb2 z.1 hp2 (fun _ => false) (by rw [hfx2]; exact bm_0) z.2.2 hf2 (U i) (V i) g3 g4) (gm_o1 E hk) rfl (gw_V gw_203 gw_204 gw_205 gw_25 gw_206) rfl ⟨rfl, rfl⟩ rfl (by decide +kernel) ⟨by decide, by decide⟩ (Nat.le_of_ble_eq_true rfl) dX1_pack_69 (fun r σ4 h9 => ?_)
          obtain ⟨h91, h92⟩ := h9
          have hfr4 := gm_fr_tr hfr (fr_blk (fun _ _ h => h.1) (mv_sr h91))
          have hp4 := pk_sr hk h91 hp2
          have hsz4 : σ4.1 (gm_P kk) 1 = nI z.2.1 := by rw [h91.1 _ 1 (fun z => by rcases z.2 with z | z | z | z <;> cases z)]; exact hsz
          have hfx4 : σ4.1 (gm_P kk) 5 = 0 := by rw [h91.1 _ 5 (fun z => by rcases z.2 with z | z | z | z <;> cases z)]; exact hfx2
          generalize fnd kk U V ps z.1 (fun _ => false) (U i) (V i) z.2.2 = w at hw h92
          obtain ⟨w1, w2⟩ := w
          cases w1 with
          | some w =>
            obtain ⟨lm, t⟩ := w
            try dsimp only at hw
            obtain ⟨h93, rfl, h94, h95, h96, h97⟩ := h92
            refine gi_if_eq hC 91 dX1_pack_72 (by decide) (fun h3 => ?_) (fun h3 => ?_)
            · exact absurd h3 (by decide)
            ·
              refine gi_aldn hC dX1_pack_75 rfl ?_
              refine gi_aldn hC dX1_pack_76 rfl ?_
              refine gi_ildn hC dX1_pack_77 rfl ?_
              refine gk_VV (n := 2) hC (fun l => c_X1_takeIn l E hk σ4 U V (gL_sr h91 hg2) ps (ps_sr h91 hb2) z.1 hp4 w2.2.2 h93.2.2.2.2 lm h96 h95 t h94 h97 i (by omega)) (gm_o1 E hk) rfl (gw_V gw_219 gw_221 gw_4 gw_25 gw_222) rfl ⟨rfl, rfl⟩ rfl (by decide +kernel) ⟨by decide, by decide⟩ (Nat.le_of_ble_eq_true rfl) dX1_pack_78 (fun σ5 h5 => ?_)
              refine gi_aldn hC dX1_pack_81 rfl ?_
              refine gi_dup hC dX1_pack_82 rfl ?_
              refine gf_P_size hC hk gw_91 dX1_pack_83 ?_
              rw [show σ5.1 = σ4.1 from h5.1.1, hsz4]
              refine gi_const hC (v := 1) dX1_pack_86 (by decide) ?_
              refine gi_iadd hC dX1_pack_87 ?_
              rw [nI_1]
              refine pf_P_size hC hk gw_91 dX1_pack_88 ?_
              refine NX _ (_, z.2.1 + 1, w2.2.2) (gm_fr_tr hfr4 (gm_fr_tr (mv_kp h5.1) (gm_fr_sc rfl))) (pk_fr hk (fun _ _ => rfl) h5.2) (fo_kp (σ2 := σ5) h5.1 h93.2.2.2.2) (gm_sc_1 _ _ _ _) ?_ hw
              rw [gm_sc_n _ _ (by omega), h5.1.1]; exact hfx4
          | none =>
            try dsimp only at hw
            obtain ⟨h93, h94⟩ := h92
            have h94 : r = 0 := h94
            subst h94
            refine gi_if_eq hC 91 dX1_pack_72 (by decide) (fun h3 => ?_) (fun h3 => ?_)
            · exact NX σ4 (z.1, z.2.1, w2.2.2) hfr4 hp4 h93.2.2.2.2 hsz4 hfx4 hw
            · exact absurd rfl h3
  have LC : ∀ n i (σ2 : gm_S), i + n = kk → gm_kp σ σ2 (pk_R kk) → (∀ j, j < i → fr_rep σ2 (gm_P kk + 5 + 3 * j) (fun _ => none) (fun _ => none)) → gm_G X E 3 2 [some (.ref (E.2.2 (gm_P kk))), some (.ref (E.2.2 1)), some (.int (nI i))] [] σ2 := by
    intro n
    induction n with
    | zero =>
      intro i σ2 hi0 hkp hfr2
      have hi0 : i = kk := by omega
      subst hi0
      refine gi_ildn hC dX1_pack_2 rfl ?_
      refine gi_aldn hC dX1_pack_3 rfl ?_
      refine gf_P_forests hC hk gw_95 dX1_pack_4 ?_
      refine gi_alenF hC hk dX1_pack_7 ?_
      refine gi_icmp_ge hC 26 dX1_pack_8 (by decide) (fun h1 => ?_) (fun h1 => ?_)
      ·
        refine gi_aldn hC dX1_pack_26 rfl ?_
        refine gf_P_place hC hk gw_89 dX1_pack_27 ?_
        refine gi_const hC (v := -1) dX1_pack_30 (by decide) ?_
        refine gk_SV (n := 2) hC (fun l => c_J7_fill_53178 l E (gm_P i + 1) 24 (gm_iR E hk 1 (by decide) (by decide)) (by decide) σ2 (-1)) (gw_S gw_201 gw_199 gw_30 gw_200) rfl ⟨rfl, rfl⟩ rfl (by decide +kernel) ⟨by decide, by decide⟩ (Nat.le_of_ble_eq_true rfl) dX1_pack_31 (fun σ3 h3 => ?_)
        refine gi_aldn hC dX1_pack_34 rfl ?_
        refine gi_const hC (v := 0) dX1_pack_35 (by decide) ?_
        refine pf_P_size hC hk gw_91 dX1_pack_36 ?_
        refine gi_const hC (v := 0) dX1_pack_39 (by decide) ?_
        refine gi_istn_2 hC dX1_pack_40 (by decide) ?_
        have hkp3 := gm_kp_tr hkp (gm_kp_mono h3.1 (fun _ z => Or.inl z))
        refine LP 24 0 (pq0, 0, fol) _ rfl (gm_fr_tr (mv_kp hkp3) (gm_fr_sc rfl)) ⟨fun e he => ?_, fun j hj => ?_⟩ (fo_kp (σ2 := σ3) hkp3 hfo) (gm_sc_1 _ _ _ _) ?_ hZ
        · show (gm_sc σ3 (gm_P i) 1 0).2 (gm_P i + 1) e = oI none ∧ ∀ i2, (none : Option Nat) = some i2 → i2 < i
          exact ⟨h3.2 e he, fun _ h => by cases h⟩
        · exact fr_cong (σ := σ2) (h3.1.2 _ (by omega)) (h3.1.2 _ (by omega)) (hfr2 j hj)
        · rw [gm_sc_n _ _ (by omega), hkp3.1]; exact hfx
      · exact absurd (Int32.le_refl _) h1
    | succ n ih =>
      intro i σ2 hi0 hkp hfr2
      have hi : i < kk := by omega
      refine gi_ildn hC dX1_pack_2 rfl ?_
      refine gi_aldn hC dX1_pack_3 rfl ?_
      refine gf_P_forests hC hk gw_95 dX1_pack_4 ?_
      refine gi_alenF hC hk dX1_pack_7 ?_
      refine gi_icmp_ge hC 26 dX1_pack_8 (by decide) (fun h1 => ?_) (fun h1 => ?_)
      · exact absurd h1 (nI_ge (a := i) (b := kk) hi (by omega))
      ·
        refine gi_aldn hC dX1_pack_11 rfl ?_
        refine gf_P_forests hC hk gw_95 dX1_pack_12 ?_
        refine gi_ildn hC dX1_pack_15 rfl ?_
        refine gi_aaldF hC hk hi rfl dX1_pack_16 ?_
        refine gk_VV (n := 0) hC (fun l => c_X2_clear l E hk hi σ2) (gm_o2 E hk hi) rfl (gw_V gw_194 gw_195 gw_196 gw_27 gw_197) rfl ⟨rfl, rfl⟩ rfl (by decide +kernel) ⟨by decide, by decide⟩ (Nat.le_of_ble_eq_true rfl) dX1_pack_17 (fun σ3 h3 => ?_)
        refine gi_iinc_2 hC dX1_pack_20 (nI_1 i) (by decide) ?_
        refine gi_goto hC 2 dX1_pack_23 (by decide) ?_
        refine ih (i + 1) σ3 (by omega) (gm_kp_tr hkp (gm_kp_mono h3.1 (fun y hy => Or.inr (by rcases hy with r | r <;> omega)))) (fun j hj => ?_)
        by_cases hji : j = i
        · subst hji; exact h3.2
        · exact fr_cong (h3.1.2 _ (by omega)) (h3.1.2 _ (by omega)) (hfr2 j (by omega))
  refine gi_const hC (v := 0) dX1_pack_0 (by decide) ?_
  refine gi_istn_2 hC dX1_pack_1 (by decide) ?_
  exact LC kk 0 σ (by omega) gm_kp_rf (fun j hj => absurd hj (Nat.not_lt_zero j))
set_option maxHeartbeats 4000000 in
set_option maxRecDepth 100000 in
theorem c_X0_verticesOf (l : Launch) (E : gm_E) (σ : gm_S) (U V : Nat → Nat) (hg : gL σ U V) (x : Int32) (S : Nat → Bool) (hx : bm x S) : gm_MI l E yX0_verticesOf (.code yX0_verticesOf cX0_verticesOf 4 (some .int) :: gw_T) { frames := 0, cells := 0, slots := 0, locals := 0 } [.ref (E.2.2 1), .int x] σ (fun r σ2 => σ2 = σ ∧ bm r (vs_lp U V S 24 0 (fun _ => false))) := by
  refine gm_enterI RX0 (by decide +kernel) rfl rfl (Nat.le_of_ble_eq_true rfl) (gm_c1_ok rfl) ?_
  intro X hC hR
  show gm_G X E 4 0 [some (.ref (E.2.2 1)), some (.int x), none, none] [] σ
  obtain ⟨Z, hZ⟩ : ∃ Z, Z = vs_lp U V S 24 0 (fun _ => false) := ⟨_, rfl⟩
  rw [← hZ] at hR
  have L : ∀ n i (y : Int32) (T : Nat → Bool), i + n = 24 → bm y T → Z = vs_lp U V S n i T → gm_G X E 4 4 [some (.ref (E.2.2 1)), some (.int x), some (.int y), some (.int (nI i))] [] σ := by
    intro n
    induction n with
    | zero =>
      intro i y T hi0 hy hw
      have hi0 : i = 24 := by omega
      subst hi0
      rw [vs_lp] at hw
      subst hw
      refine gi_ildn hC dX0_verticesOf_4 rfl ?_
      refine gi_bipush hC (v := 24) dX0_verticesOf_5 (by decide) ?_
      refine gi_icmp_ge hC 45 dX0_verticesOf_7 (by decide) (fun h1 => ?_) (fun h1 => ?_)
      ·
        refine gi_ildn hC dX0_verticesOf_45 rfl ?_
        exact hR _ _ _ _ rfl ⟨rfl, hy⟩ dX0_verticesOf_46
      · exact absurd (Int32.le_refl _) h1
    | succ n ih =>
      intro i y T hi0 hy hw
      obtain ⟨g1, g2, g3, g4⟩ := hg i (by omega)
      rw [vs_lp] at hw
      refine gi_ildn hC dX0_verticesOf_4 rfl ?_
      refine gi_bipush hC (v := 24) dX0_verticesOf_5 (by decide) ?_
      refine gi_icmp_ge hC 45 dX0_verticesOf_7 (by decide) (fun h1 => ?_) (fun h1 => ?_)
      · exact absurd h1 (nI_ge (a := i) (b := 24) (by omega) (by omega))
      ·
        refine gi_ildn hC dX0_verticesOf_10 rfl ?_
        refine gi_ildn hC dX0_verticesOf_11 rfl ?_
        refine gi_ishr hC dX0_verticesOf_12 ?_
        refine gi_const hC (v := 1) dX0_verticesOf_13 (by decide) ?_
        refine gi_iand hC dX0_verticesOf_14 ?_
        refine gi_const hC (v := 1) dX0_verticesOf_15 (by decide) ?_
        refine gi_icmp_ne hC 39 dX0_verticesOf_16 (by decide) (fun h2 => ?_) (fun h2 => ?_)
        ·
          have hSi : ¬ S i = true := by
            rw [← hx i (by omega)]
            exact fun hbb => h2 ((b_tst1 x (by omega)).mpr hbb)
          rw [if_neg hSi] at hw
          refine gi_iinc_3 hC dX0_verticesOf_39 (nI_1 i) (by decide) ?_
          refine gi_goto hC 4 dX0_verticesOf_42 (by decide) ?_
          exact ih (i + 1) y T (by omega) hy hw
        ·
          have hSi : S i = true := by
            rw [← hx i (by omega)]
            exact (b_tst1 x (by omega)).mp h2
          rw [if_pos hSi] at hw
          refine gi_ildn hC dX0_verticesOf_19 rfl ?_
          refine gi_const hC (v := 1) dX0_verticesOf_20 (by decide) ?_
          refine gi_aldn hC dX0_verticesOf_21 rfl ?_
          refine gf_G_lesser hC gw_45 dX0_verticesOf_22 ?_
          refine gi_ildn hC dX0_verticesOf_25 rfl ?_
          refine gi_iald hC (gm_i2 E) (j := i) (by omega) rfl (by first | decide | omega) dX0_verticesOf_26 ?_
          rw [g1]
          refine gi_ishl hC dX0_verticesOf_27 ?_
          refine gi_const hC (v := 1) dX0_verticesOf_28 (by decide) ?_
          refine gi_aldn hC dX0_verticesOf_29 rfl ?_
          refine gf_G_greater hC gw_48 dX0_verticesOf_30 ?_
          refine gi_ildn hC dX0_verticesOf_33 rfl ?_
          refine gi_iald hC (gm_i3 E) (j := i) (by omega) rfl (by first | decide | omega) dX0_verticesOf_34 ?_
          rw [g2]
          refine gi_ishl hC dX0_verticesOf_35 ?_
          refine gi_ior hC dX0_verticesOf_36 ?_
          refine gi_ior hC dX0_verticesOf_37 ?_
          refine gi_istn_2 hC dX0_verticesOf_38 (by decide) ?_
          refine gi_iinc_3 hC dX0_verticesOf_39 (nI_1 i) (by decide) ?_
          refine gi_goto hC 4 dX0_verticesOf_42 (by decide) ?_
          exact ih (i + 1) _ _ (by omega) (bm_or hy (bm_or (bm_pow (by omega)) (bm_pow (by omega)))) hw
  refine gi_const hC (v := 0) dX0_verticesOf_0 (by decide) ?_
  refine gi_istn_2 hC dX0_verticesOf_1 (by decide) ?_
  refine gi_const hC (v := 0) dX0_verticesOf_2 (by decide) ?_
  refine gi_istn_3 hC dX0_verticesOf_3 (by decide) ?_
  exact L 24 0 0 (fun _ => false) rfl bm_0 hZ
set_option maxHeartbeats 4000000 in
set_option maxRecDepth 100000 in
theorem c_X0_edgesAmong (l : Launch) (E : gm_E) (σ : gm_S) (U V : Nat → Nat) (hg : gL σ U V) (ps : Nat → Bool) (hb : bm (σ.1 1 2) ps) (x : Int32) : gm_MI l E yX0_edgesAmong (.code yX0_edgesAmong cX0_edgesAmong 4 (some .int) :: gw_T) { frames := 1, cells := 0, slots := 0, locals := 23 } [.ref (E.2.2 1), .int x] σ (fun r σ2 => σ2 = σ ∧ r = nI (am_lp U V ps (bt x) 24 0 0)) := by
  refine gm_enterI RX0 (by decide +kernel) rfl rfl (Nat.le_of_ble_eq_true rfl) (gm_c1_ok rfl) ?_
  intro X hC hR
  show gm_G X E 4 0 [some (.ref (E.2.2 1)), some (.int x), none, none] [] σ
  obtain ⟨Z, hZ⟩ : ∃ Z, Z = am_lp U V ps (bt x) 24 0 0 := ⟨_, rfl⟩
  rw [← hZ] at hR
  have L : ∀ n i c, i + n = 24 → Z = am_lp U V ps (bt x) n i c → gm_G X E 4 4 [some (.ref (E.2.2 1)), some (.int x), some (.int (nI c)), some (.int (nI i))] [] σ := by
    intro n
    induction n with
    | zero =>
      intro i c hi0 hw
      have hi0 : i = 24 := by omega
      subst hi0
      rw [am_lp] at hw
      subst hw
      refine gi_ildn hC dX0_edgesAmong_4 rfl ?_
      refine gi_bipush hC (v := 24) dX0_edgesAmong_5 (by decide) ?_
      refine gi_icmp_ge hC 41 dX0_edgesAmong_7 (by decide) (fun h1 => ?_) (fun h1 => ?_)
      ·
        refine gi_ildn hC dX0_edgesAmong_41 rfl ?_
        exact hR _ _ _ _ rfl ⟨rfl, rfl⟩ dX0_edgesAmong_42
      · exact absurd (Int32.le_refl _) h1
    | succ n ih =>
      intro i c hi0 hw
      obtain ⟨g1, g2, g3, g4⟩ := hg i (by omega)
      rw [am_lp] at hw
      have NX : ∀ c2, Z = am_lp U V ps (bt x) n (i + 1) c2 → gm_G X E 4 35 [some (.ref (E.2.2 1)), some (.int x), some (.int (nI c2)), some (.int (nI i))] [] σ := by
        intro c2 h2
        refine gi_iinc_3 hC dX0_edgesAmong_35 (nI_1 i) (by decide) ?_
        refine gi_goto hC 4 dX0_edgesAmong_38 (by decide) ?_
        exact ih (i + 1) c2 (by omega) h2
      refine gi_ildn hC dX0_edgesAmong_4 rfl ?_
      refine gi_bipush hC (v := 24) dX0_edgesAmong_5 (by decide) ?_
      refine gi_icmp_ge hC 41 dX0_edgesAmong_7 (by decide) (fun h1 => ?_) (fun h1 => ?_)
      · exact absurd h1 (nI_ge (a := i) (b := 24) (by omega) (by omega))
      ·
        refine gi_aldn hC dX0_edgesAmong_10 rfl ?_
        refine gi_ildn hC dX0_edgesAmong_11 rfl ?_
        refine gk_VI (n := 1) hC (fun l => c_X0_hasEdge l E σ (nI i)) (gm_o0 E) rfl (gw_V gw_166 gw_167 gw_168 gw_24 gw_169) rfl ⟨rfl, rfl⟩ rfl (by decide +kernel) ⟨by decide, by decide⟩ (Nat.le_of_ble_eq_true rfl) dX0_edgesAmong_12 (fun r σ3 hq => ?_)
        obtain ⟨hq, rfl⟩ := hq
        rw [gE_has_nI (by omega), hb i (by omega)] at hq
        refine gi_if_eq hC 35 dX0_edgesAmong_15 (by decide) (fun h2 => ?_) (fun h2 => ?_)
        ·
          have hpi : ¬ ps i = true := by
            rcases hq with ⟨a1, -⟩ | ⟨-, a1⟩
            · rw [a1] at h2; exact absurd h2 (by decide)
            · exact a1
          rw [if_neg (fun z => hpi z.1)] at hw
          exact NX c hw
        ·
          have hpi : ps i = true := by
            rcases hq with ⟨-, a1⟩ | ⟨a1, -⟩
            · exact a1
            · exact absurd a1 h2
          refine gi_aldn hC dX0_edgesAmong_18 rfl ?_
          refine gi_const hC (v := 1) dX0_edgesAmong_19 (by decide) ?_
          refine gi_ildn hC dX0_edgesAmong_20 rfl ?_
          refine gi_ishl hC dX0_edgesAmong_21 ?_
          refine gk_VI (n := 1) hC (fun l => c_X0_verticesOf l E σ3 U V hg _ _ (bm_pow (n := i) (by omega))) (gm_o0 E) rfl (gw_V gw_309 gw_294 gw_295 gw_24 gw_296) rfl ⟨rfl, rfl⟩ rfl (by decide +kernel) ⟨by decide, by decide⟩ (Nat.le_of_ble_eq_true rfl) dX0_edgesAmong_22 (fun r2 σ4 h9 => ?_)
          obtain ⟨rfl, h9⟩ := h9
          rw [vs_lp_one U V i 24 0 _ (Nat.zero_le i) (by omega)] at h9
          have hz := bm_and h9 (bm_not (x := x) (S := bt x) (fun _ _ => rfl))
          refine gi_ildn hC dX0_edgesAmong_25 rfl ?_
          refine gi_const hC (v := -1) dX0_edgesAmong_26 (by decide) ?_
          refine gi_ixor hC dX0_edgesAmong_27 ?_
          refine gi_iand hC dX0_edgesAmong_28 ?_
          refine gi_if_ne hC 35 dX0_edgesAmong_29 (by decide) (fun h3 => ?_) (fun h3 => ?_)
          ·
            rw [if_neg] at hw
            · exact NX c hw
            · rintro ⟨-, a1, a2⟩
              refine h3 (b_zero.mpr fun j hj => ?_)
              rw [hz j hj]
              by_cases b1 : j = U i
              · subst b1; simp [a1]
              · by_cases b2 : j = V i
                · subst b2; simp [a2]
                · simp [b1, b2]
          ·
            have ha1 : bt x (U i) = true := by
              have := b_zero.mp h3 (U i) (by omega)
              rw [hz _ (by omega)] at this
              simpa using this
            have ha2 : bt x (V i) = true := by
              have := b_zero.mp h3 (V i) (by omega)
              rw [hz _ (by omega)] at this
              simpa using this
            rw [if_pos ⟨hpi, ha1, ha2⟩] at hw
            refine gi_iinc_2 hC dX0_edgesAmong_32 (nI_1 c) (by decide) ?_
            exact NX (c + 1) hw
  refine gi_const hC (v := 0) dX0_edgesAmong_0 (by decide) ?_
  refine gi_istn_2 hC dX0_edgesAmong_1 (by decide) ?_
  refine gi_const hC (v := 0) dX0_edgesAmong_2 (by decide) ?_
  refine gi_istn_3 hC dX0_edgesAmong_3 (by decide) ?_
  exact L 24 0 0 rfl hZ
set_option maxHeartbeats 4000000 in
set_option maxRecDepth 100000 in
theorem c_J6_bitCount_0f7a4 (l : Launch) (E : gm_E) (σ : gm_S) (x : Int32) : gm_MI l E yJ6_bitCount_0f7a4 (.code yJ6_bitCount_0f7a4 cJ6_bitCount_0f7a4 1 (some .int) :: gw_T) { frames := 0, cells := 0, slots := 0, locals := 0 } [.int x] σ (fun r σ2 => r = jbc x ∧ σ2 = σ) := by
  refine gm_enterI RJ6 (by decide +kernel) rfl rfl (Nat.le_of_ble_eq_true rfl) (gm_c1_ok rfl) ?_
  intro X hC hR
  show gm_G X E 1 0 [some (.int x)] [] σ
  refine gi_ildn hC dJ6_bitCount_0f7a4_0 rfl ?_
  refine gi_ildn hC dJ6_bitCount_0f7a4_1 rfl ?_
  refine gi_const hC (v := 1) dJ6_bitCount_0f7a4_2 (by decide) ?_
  refine gi_iushr hC dJ6_bitCount_0f7a4_3 ?_
  refine gi_ldcw hC dJ6_bitCount_0f7a4_4 (List.mem_cons_of_mem _ gw_147) ?_
  refine gi_iand hC dJ6_bitCount_0f7a4_7 ?_
  refine gi_isub hC dJ6_bitCount_0f7a4_8 ?_
  refine gi_istn_0 hC dJ6_bitCount_0f7a4_9 (by decide) ?_
  refine gi_ildn hC dJ6_bitCount_0f7a4_10 rfl ?_
  refine gi_ldcw hC dJ6_bitCount_0f7a4_11 (List.mem_cons_of_mem _ gw_148) ?_
  refine gi_iand hC dJ6_bitCount_0f7a4_14 ?_
  refine gi_ildn hC dJ6_bitCount_0f7a4_15 rfl ?_
  refine gi_const hC (v := 2) dJ6_bitCount_0f7a4_16 (by decide) ?_
  refine gi_iushr hC dJ6_bitCount_0f7a4_17 ?_
  refine gi_ldcw hC dJ6_bitCount_0f7a4_18 (List.mem_cons_of_mem _ gw_148) ?_
  refine gi_iand hC dJ6_bitCount_0f7a4_21 ?_
  refine gi_iadd hC dJ6_bitCount_0f7a4_22 ?_
  refine gi_istn_0 hC dJ6_bitCount_0f7a4_23 (by decide) ?_
  refine gi_ildn hC dJ6_bitCount_0f7a4_24 rfl ?_
  refine gi_ildn hC dJ6_bitCount_0f7a4_25 rfl ?_
  refine gi_const hC (v := 4) dJ6_bitCount_0f7a4_26 (by decide) ?_
  refine gi_iushr hC dJ6_bitCount_0f7a4_27 ?_
  refine gi_iadd hC dJ6_bitCount_0f7a4_28 ?_
  refine gi_ldcw hC dJ6_bitCount_0f7a4_29 (List.mem_cons_of_mem _ gw_149) ?_
  refine gi_iand hC dJ6_bitCount_0f7a4_32 ?_
  refine gi_istn_0 hC dJ6_bitCount_0f7a4_33 (by decide) ?_
  refine gi_ildn hC dJ6_bitCount_0f7a4_34 rfl ?_
  refine gi_ildn hC dJ6_bitCount_0f7a4_35 rfl ?_
  refine gi_bipush hC (v := 8) dJ6_bitCount_0f7a4_36 (by decide) ?_
  refine gi_iushr hC dJ6_bitCount_0f7a4_38 ?_
  refine gi_iadd hC dJ6_bitCount_0f7a4_39 ?_
  refine gi_istn_0 hC dJ6_bitCount_0f7a4_40 (by decide) ?_
  refine gi_ildn hC dJ6_bitCount_0f7a4_41 rfl ?_
  refine gi_ildn hC dJ6_bitCount_0f7a4_42 rfl ?_
  refine gi_bipush hC (v := 16) dJ6_bitCount_0f7a4_43 (by decide) ?_
  refine gi_iushr hC dJ6_bitCount_0f7a4_45 ?_
  refine gi_iadd hC dJ6_bitCount_0f7a4_46 ?_
  refine gi_istn_0 hC dJ6_bitCount_0f7a4_47 (by decide) ?_
  refine gi_ildn hC dJ6_bitCount_0f7a4_48 rfl ?_
  refine gi_bipush hC (v := 63) dJ6_bitCount_0f7a4_49 (by decide) ?_
  refine gi_iand hC dJ6_bitCount_0f7a4_51 ?_
  exact hR _ _ _ _ rfl ⟨rfl, rfl⟩ dJ6_bitCount_0f7a4_52
set_option maxHeartbeats 4000000 in
set_option maxRecDepth 100000 in
theorem c_X0_edgeCount (l : Launch) (E : gm_E) (σ : gm_S) : gm_MI l E yX0_edgeCount (.code yX0_edgeCount cX0_edgeCount 1 (some .int) :: gw_T) { frames := 1, cells := 0, slots := 0, locals := 20 } [.ref (E.2.2 1)] σ (fun r σ2 => r = jbc (σ.1 1 2) ∧ σ2 = σ) := by
  refine gm_enterI RX0 (by decide +kernel) rfl rfl (Nat.le_of_ble_eq_true rfl) (gm_c1_ok rfl) ?_
  intro X hC hR
  show gm_G X E 1 0 [some (.ref (E.2.2 1))] [] σ
  refine gi_aldn hC dX0_edgeCount_0 rfl ?_
  refine gf_G_present hC gw_51 dX0_edgeCount_1 ?_
  refine gk_SI (n := 1) hC (fun l => c_J6_bitCount_0f7a4 l E σ _) (gw_S gw_144 gw_145 gw_29 gw_146) rfl ⟨rfl, rfl⟩ rfl (by decide +kernel) ⟨by decide, by decide⟩ (Nat.le_of_ble_eq_true rfl) dX0_edgeCount_4 (fun r σ2 h => ?_)
  exact hR _ _ _ _ rfl h dX0_edgeCount_7
