/-! THE REFERENCE: part, forest -/
def fxi (H : Nat → Bool) (i : Nat) : Nat → Bool := fun x => H x && decide (x < i)
theorem fxi_s {H : Nat → Bool} {i : Nat} (hi : H i = true) : (fun x => fxi H i x || decide (x = i)) = fxi H (i + 1) := by
  funext x
  unfold fxi
  by_cases q : x = i
  · subst q; simp [hi]
  · have h1 : decide (x < i + 1) = decide (x < i) := decide_eq_decide.mpr (by omega)
    simp [q, h1]
theorem fxi_n {H : Nat → Bool} {i : Nat} (hi : H i = false) : fxi H i = fxi H (i + 1) := by
  funext x
  unfold fxi
  by_cases q : x = i
  · subst q; simp [hi]
  · have h1 : decide (x < i + 1) = decide (x < i) := decide_eq_decide.mpr (by omega)
    rw [h1]
set_option maxHeartbeats 4000000 in
set_option maxRecDepth 100000 in
theorem c_X4_part (l : Launch) (E : gm_E) (σ : gm_S) (n : Nat) (ps : Nat → Bool) (U V : Nat → Nat) (hM : mG σ n ps U V) (k : Nat) (hk : k < 7) (hFit : gp_fit U V k (fun e => hdd n U V ps k e = true)) : gm_MV l E yX4_part (.code yX4_part cX4_part 6 none :: gw_T) { frames := 3, cells := 0, slots := 0, locals := 85 } [.ref (E.2.2 5), .int (nI k)] σ (fun σ2 => mFR σ σ2 ∧ mG σ2 n ps U V ∧ bm (σ2.1 5 3) (hdd n U V ps k) ∧ ∃ p, mP σ2 p ∧ gp_ok U V k p ∧ (∀ e, p e ≠ none ↔ hdd n U V ps k e = true) ∧ LM U V k (hdd n U V ps k) p 24) := by
  refine gm_enterV RX4 (by decide +kernel) rfl rfl (Nat.le_of_ble_eq_true rfl) (gm_c1_ok rfl) ?_
  intro X hC hR
  show gm_G X E 6 0 [some (.ref (E.2.2 5)), some (.int (nI k)), none, none, none, none] [] σ
  obtain ⟨g1, g2, g3, g4, g5, g6, g7⟩ := id hM
  obtain ⟨H, hH⟩ : ∃ H, H = hdd n U V ps k := ⟨_, rfl⟩
  rw [← hH] at hR hFit
  have hHp : ∀ e, H e = true → ps e = true := fun e he => hdd_sub (by rw [← hH]; exact he)
  have hH24 : ∀ e, H e = true → e < 24 := fun e he => by
    rcases Nat.lt_or_ge e 24 with z | z
    · exact z
    · have := g6 e z; rw [hHp e he] at this; cases this
  have hHne : ∀ e, H e = true → U e ≠ V e := fun e he => by have := g7 e (hHp e he); omega
  have hkeep : ∀ σ1 σ2 : gm_S, gm_fr σ1 σ2 (fun _ _ => False) (fun y => 8 ≤ y ∧ y ≤ 14) → mG σ1 n ps U V → bm (σ1.1 5 3) H → mG σ2 n ps U V ∧ bm (σ2.1 5 3) H := fun σ1 σ2 h hg hb => by
    obtain ⟨a1, a2, a3, a4, a5, a6, a7⟩ := hg
    exact ⟨⟨a1, a2, by rw [h.1 5 0 id]; exact a3, fun e he => by rw [h.2 7 (by decide)]; exact a4 e he, fun e he => by rw [h.2 6 (by decide)]; exact a5 e he, a6, a7⟩, by rw [h.1 5 3 id]; exact hb⟩
  have hmf : ∀ σ1 σ2 : gm_S, gm_fr σ1 σ2 (fun _ _ => False) (fun y => 8 ≤ y ∧ y ≤ 14) → mFR σ1 σ2 := fun σ1 σ2 h => gm_fr_mono h (fun _ _ z => absurd z id) (fun y hy => by omega)
  have LD : ∀ m f i (p : Nat → Option Nat) (σ2 : gm_S), f + m = k → i < 24 → H i = true → mFR σ σ2 → mG σ2 n ps U V → bm (σ2.1 5 3) H → mP σ2 p → gp_ok U V k p → (∀ x, p x ≠ none ↔ H x = true) → mZ σ2 9 (fxi H i) → LM U V k H p i → (∀ f2, f2 < f → ¬ gp_fix U V k (fun x => H x = true) (fun x => (x < i ∧ H x = true) ∨ x = i) (va_up p i (some f2))) → (∀ f0, p i = some f0 → f ≤ f0) → (∀ (σ3 : gm_S) (p : Nat → Option Nat) (w4 w5 : Option Value), mFR σ σ3 → mG σ3 n ps U V → bm (σ3.1 5 3) H → mP σ3 p → gp_ok U V k p → (∀ x, p x ≠ none ↔ H x = true) → mZ σ3 9 (fxi H (i + 1)) → LM U V k H p (i + 1) → gm_G X E 6 167 [some (.ref (E.2.2 5)), some (.int (nI k)), some (.int 1), some (.int (nI i)), w4, w5] [] σ3) → gm_G X E 6 113 [some (.ref (E.2.2 5)), some (.int (nI k)), some (.int 1), some (.int (nI i)), some (.int 0), some (.int (nI f))] [] σ2 := by
    intro m
    induction m with
    | zero =>
      intro f i p σ2 hf0 hi hHi hfr hG hb hp hok hd hz hlm hnf hle KK
      cases hq : p i with
      | none => exact absurd hq ((hd i).mpr hHi)
      | some f0 =>
        have h1 := hok.1 i f0 hq
        have h2 := hle f0 hq
        omega
    | succ m ih =>
      intro f i p σ2 hf0 hi hHi hfr hG hb hp hok hd hz hlm hnf hle KK
      have hfk : f < k := by omega
      obtain ⟨p1, p3⟩ := hp i hi
      have DN : ∀ (σ3 : gm_S) (p2 : Nat → Option Nat) (w4 : Option Value), mFR σ σ3 → mG σ3 n ps U V → bm (σ3.1 5 3) H → mP σ3 p2 → gp_ok U V k p2 → (∀ x, p2 x ≠ none ↔ H x = true) → (∀ x, x ≠ i → x < 24 → σ3.2 9 x = if fxi H (i + 1) x = true then 1 else 0) → (∀ x, fxi H i x = true → p2 x = p x) → p2 i = some f → gm_G X E 6 151 [some (.ref (E.2.2 5)), some (.int (nI k)), some (.int 1), some (.int (nI i)), w4, some (.int (nI f))] [.int 1] σ3 := by
        intro σ3 p2 w4 a1 a2 a3 a4 a5 a6 a7 a8 a9
        refine gi_ist_4 hC dX4_part_151 (by decide) ?_
        refine gi_aldn hC dX4_part_153 rfl ?_
        refine gf_M_isFixed hC gw_321 dX4_part_154 ?_
        refine gi_ildn hC dX4_part_157 rfl ?_
        refine gi_ild hC dX4_part_158 rfl ?_
        refine gi_zast hC (gm_i9 E) hi rfl (Or.inr rfl) (by decide) dX4_part_160 ?_
        refine gi_iinc_5 hC dX4_part_161 (nI_1 f) (by decide) ?_
        refine gi_goto hC 113 dX4_part_164 (by decide) ?_
        have hKK : gm_G X E 6 167 [some (.ref (E.2.2 5)), some (.int (nI k)), some (.int 1), some (.int (nI i)), some (.int 1), some (.int (nI (f + 1)))] [] (gm_ar σ3 9 i 1) := by
          have hfa : gm_fr σ3 (gm_ar σ3 9 i 1) (fun _ _ => False) (fun y => 8 ≤ y ∧ y ≤ 14) := gm_fr_ar (by decide)
          obtain ⟨b1, b2⟩ := hkeep _ _ hfa a2 a3
          refine KK _ p2 _ _ (mFR_tr a1 (hmf _ _ hfa)) b1 b2 (fun x hx => by rw [gm_ar_r _ _ (by decide)]; exact a4 x hx) a5 a6 (fun x hx => ?_) ?_
          · by_cases q : x = i
            · subst q; rw [gm_ar_2, ← fxi_s hHi]; simp
            · rw [gm_ar_n _ _ (fun z => q z.2)]; exact a7 x q hx
          · intro e he hHe f0 f3 hpe hf3
            by_cases q : e = i
            · subst q
              have hf0 : f0 = f := (Option.some.inj (hpe.symm.trans a9))
              subst hf0
              intro hx
              refine hnf f3 hf3 ?_
              obtain ⟨p5, c1, c2, c3⟩ := hx
              refine ⟨p5, c1, c2, fun x hx => ?_⟩
              rw [c3 x hx]
              by_cases q2 : x = e
              · subst q2; rw [va_up_self, va_up_self]
              · rw [va_up_ne _ _ q2, va_up_ne _ _ q2]
                rcases hx with hx | hx
                · exact a8 x (by simp [fxi, hx.1, hx.2])
                · exact absurd hx q2
            · exact LM_cong hlm (fun x hx hHx => a8 x (by simp [fxi, hx, hHx])) e (by omega) hHe f0 f3 hpe hf3
        refine gi_ild hC dX4_part_113 rfl ?_
        refine gi_ildn hC dX4_part_115 rfl ?_
        refine gi_icmp_ge hC 167 dX4_part_116 (by decide) (fun h8 => ?_) (fun h8 => ?_)
        · exact hKK
        ·
          refine gi_ild hC dX4_part_119 rfl ?_
          refine gi_if_ne hC 167 dX4_part_121 (by decide) (fun h9 => ?_) (fun h9 => ?_)
          · exact hKK
          · exact absurd h9 (by decide)
      refine gi_ild hC dX4_part_113 rfl ?_
      refine gi_ildn hC dX4_part_115 rfl ?_
      refine gi_icmp_ge hC 167 dX4_part_116 (by decide) (fun h1 => ?_) (fun h1 => ?_)
      · exact absurd h1 (nI_ge (a := f) (b := k) hfk (by omega))
      ·
        refine gi_ild hC dX4_part_119 rfl ?_
        refine gi_if_ne hC 167 dX4_part_121 (by decide) (fun h2 => ?_) (fun h2 => ?_)
        · exact absurd rfl h2
        ·
          refine gi_aldn hC dX4_part_124 rfl ?_
          refine gf_M_forestOf hC gw_320 dX4_part_125 ?_
          refine gi_ildn hC dX4_part_128 rfl ?_
          refine gi_iald hC (gm_i8 E) hi rfl (by first | decide | omega) dX4_part_129 ?_
          rw [p1]
          refine gi_ild hC dX4_part_130 rfl ?_
          refine gi_icmp_eq hC 146 dX4_part_132 (by decide) (fun h3 => ?_) (fun h3 => ?_)
          ·
            have hpi : p i = some f := oI_inj (t := some f) (fun n hn => Nat.lt_of_lt_of_le (p3 n hn) (by decide)) (fun n hn => by cases hn; omega) h3
            refine gi_const hC (v := 1) dX4_part_146 (by decide) ?_
            refine gi_goto hC 151 dX4_part_147 (by decide) ?_
            refine DN σ2 p _ hfr hG hb hp hok hd (fun x q hx => ?_) (fun _ _ => rfl) hpi
            rw [hz x hx, ← fxi_s hHi]
            simp [q]
          ·
            have hpi : p i ≠ some f := fun q => h3 (by rw [q]; rfl)
            refine gi_aldn hC dX4_part_135 rfl ?_
            refine gi_ildn hC dX4_part_136 rfl ?_
            refine gi_ild hC dX4_part_137 rfl ?_
            refine gi_ildn hC dX4_part_139 rfl ?_
            refine gk_VI (n := 3) hC (fun l => c_X4_move l E σ2 U V hG.2.2.2.2.1 p hp (fxi H i) hz k hk hok (fun x hx => hH24 x ((hd x).mp hx)) (fun x hx => hHne x ((hd x).mp hx)) (fun x hx => (hd x).mpr (by simp [fxi] at hx; exact hx.1)) i hi ((hd i).mpr hHi) (by simp [fxi]) f hfk hpi) (gm_o4 E) rfl (gw_V gw_428 gw_430 gw_19 gw_28 gw_431) rfl ⟨rfl, rfl⟩ rfl (by decide +kernel) ⟨by decide, by decide⟩ (Nat.le_of_ble_eq_true rfl) dX4_part_140 (fun r σ3 h4 => ?_)
            obtain ⟨h4f, h4⟩ := h4
            obtain ⟨hG3, hb3⟩ := hkeep _ _ h4f hG hb
            have hfr3 := mFR_tr hfr (hmf _ _ h4f)
            rcases h4 with ⟨rfl, p2, b1, b2, b3, b4, b5, b6⟩ | ⟨rfl, b1, b2, b3⟩
            ·
              refine gi_if_eq hC 150 dX4_part_143 (by decide) (fun h5 => ?_) (fun h5 => ?_)
              · exact absurd h5 (by decide)
              ·
                refine gi_const hC (v := 1) dX4_part_146 (by decide) ?_
                refine gi_goto hC 151 dX4_part_147 (by decide) ?_
                refine DN σ3 p2 _ hfr3 hG3 hb3 b1 b2 (fun x => (b3 x).trans (hd x)) (fun x q hx => ?_) b4 b5
                rw [b6 x hx, fxi_s hHi]
            ·
              refine gi_if_eq hC 150 dX4_part_143 (by decide) (fun h5 => ?_) (fun h5 => ?_)
              ·
                refine gi_const hC (v := 0) dX4_part_150 (by decide) ?_
                refine gi_ist_4 hC dX4_part_151 (by decide) ?_
                refine gi_aldn hC dX4_part_153 rfl ?_
                refine gf_M_isFixed hC gw_321 dX4_part_154 ?_
                refine gi_ildn hC dX4_part_157 rfl ?_
                refine gi_ild hC dX4_part_158 rfl ?_
                refine gi_zast hC (gm_i9 E) hi rfl (Or.inl rfl) (by decide) dX4_part_160 ?_
                refine gi_iinc_5 hC dX4_part_161 (nI_1 f) (by decide) ?_
                refine gi_goto hC 113 dX4_part_164 (by decide) ?_
                have hfa : gm_fr σ3 (gm_ar σ3 9 i 0) (fun _ _ => False) (fun y => 8 ≤ y ∧ y ≤ 14) := gm_fr_ar (by decide)
                obtain ⟨d1, d2⟩ := hkeep _ _ hfa hG3 hb3
                refine ih (f + 1) i p _ (by omega) hi hHi (mFR_tr hfr3 (hmf _ _ hfa)) d1 d2 (fun x hx => by rw [gm_ar_r _ _ (by decide)]; exact b1 x hx) hok hd (fun x hx => ?_) hlm (fun f2 hf2 => ?_) (fun f0 hq => ?_) KK
                · by_cases q : x = i
                  · subst q; rw [gm_ar_2]; simp [fxi]
                  · rw [gm_ar_n _ _ (fun z => q z.2)]; exact b2 x hx
                · by_cases q : f2 = f
                  · subst q
                    rw [show (fun x => H x = true) = (fun x => p x ≠ none) from gh_eq fun x => (hd x).symm, show (fun x => (x < i ∧ H x = true) ∨ x = i) = (fun x => fxi H i x = true ∨ x = i) from gh_eq fun x => by simp [fxi, And.comm]]
                    exact b3
                  · exact hnf f2 (by omega)
                · have := hle f0 hq
                  have h9 : f0 ≠ f := fun q => hpi (q ▸ hq)
                  omega
              · exact absurd rfl h5
  have LC : ∀ m i (p : Nat → Option Nat) (σ2 : gm_S) (w4 w5 : Option Value), i + m = 24 → mFR σ σ2 → mG σ2 n ps U V → bm (σ2.1 5 3) H → mP σ2 p → gp_ok U V k p → (∀ x, p x ≠ none ↔ H x = true) → mZ σ2 9 (fxi H i) → LM U V k H p i → gm_G X E 6 82 [some (.ref (E.2.2 5)), some (.int (nI k)), some (.int 1), some (.int (nI i)), w4, w5] [] σ2 := by
    intro m
    induction m with
    | zero =>
      intro i p σ2 w4 w5 hi0 hfr hG hb hp hok hd hz hlm
      have hi0 : i = 24 := by omega
      subst hi0
      refine gi_ildn hC dX4_part_82 rfl ?_
      refine gi_bipush hC (v := 24) dX4_part_83 (by decide) ?_
      refine gi_icmp_ge hC 173 dX4_part_85 (by decide) (fun h1 => ?_) (fun h1 => ?_)
      · exact hR _ _ _ ⟨hfr, hG, hb, p, hp, hok, hd, hlm⟩ dX4_part_173
      · exact absurd (Int32.le_refl _) h1
    | succ m ih =>
      intro i p σ2 w4 w5 hi0 hfr hG hb hp hok hd hz hlm
      refine gi_ildn hC dX4_part_82 rfl ?_
      refine gi_bipush hC (v := 24) dX4_part_83 (by decide) ?_
      refine gi_icmp_ge hC 173 dX4_part_85 (by decide) (fun h1 => ?_) (fun h1 => ?_)
      · exact absurd h1 (nI_ge (a := i) (b := 24) (by omega) (by omega))
      ·
        refine gi_ildn hC dX4_part_88 rfl ?_
        refine gi_if_eq hC 173 dX4_part_89 (by decide) (fun h2 => ?_) (fun h2 => ?_)
        · exact absurd h2 (by decide)
        ·
          refine gi_aldn hC dX4_part_92 rfl ?_
          refine gf_M_heldBits hC gw_319 dX4_part_93 ?_
          refine gi_ildn hC dX4_part_96 rfl ?_
          refine gi_ishr hC dX4_part_97 ?_
          refine gi_const hC (v := 1) dX4_part_98 (by decide) ?_
          refine gi_iand hC dX4_part_99 ?_
          rw [bm_tst hb (by omega)]
          refine gi_if_ne hC 107 dX4_part_100 (by decide) (fun h3 => ?_) (fun h3 => ?_)
          ·
            have hHi : H i = true := by
              cases hq : H i
              · rw [hq] at h3; exact absurd rfl h3
              · rfl
            refine gi_const hC (v := 0) dX4_part_107 (by decide) ?_
            refine gi_ist_4 hC dX4_part_108 (by decide) ?_
            refine gi_const hC (v := 0) dX4_part_110 (by decide) ?_
            refine gi_ist_5 hC dX4_part_111 (by decide) ?_
            refine LD k 0 i p σ2 (by omega) (by omega) hHi hfr hG hb hp hok hd hz hlm (fun f2 hf2 => absurd hf2 (Nat.not_lt_zero f2)) (fun f0 _ => Nat.zero_le f0) (fun σ3 p3 w4 w5 b1 b2 b3 b4 b5 b6 b7 b8 => ?_)
            refine gi_iinc_3 hC dX4_part_167 (nI_1 i) (by decide) ?_
            refine gi_goto hC 82 dX4_part_170 (by decide) ?_
            exact ih (i + 1) p3 σ3 _ _ (by omega) b1 b2 b3 b4 b5 b6 b7 b8
          ·
            have hHi : H i = false := by
              cases hq : H i
              · rfl
              · rw [hq] at h3; exact absurd h3 (by decide)
            refine gi_const hC (v := 1) dX4_part_103 (by decide) ?_
            refine gi_goto hC 108 dX4_part_104 (by decide) ?_
            refine gi_ist_4 hC dX4_part_108 (by decide) ?_
            refine gi_const hC (v := 0) dX4_part_110 (by decide) ?_
            refine gi_ist_5 hC dX4_part_111 (by decide) ?_
            have NX : ∀ w5 : Option Value, gm_G X E 6 167 [some (.ref (E.2.2 5)), some (.int (nI k)), some (.int 1), some (.int (nI i)), some (.int 1), w5] [] σ2 := by
              intro w5
              refine gi_iinc_3 hC dX4_part_167 (nI_1 i) (by decide) ?_
              refine gi_goto hC 82 dX4_part_170 (by decide) ?_
              exact ih (i + 1) p σ2 _ _ (by omega) hfr hG hb hp hok hd (by rw [← fxi_n hHi]; exact hz) (fun e he hHe => by
                by_cases q : e = i
                · subst q; rw [hHi] at hHe; cases hHe
                · exact hlm e (by omega) hHe)
            refine gi_ild hC dX4_part_113 rfl ?_
            refine gi_ildn hC dX4_part_115 rfl ?_
            refine gi_icmp_ge hC 167 dX4_part_116 (by decide) (fun h4 => ?_) (fun h4 => ?_)
            · exact NX _
            ·
              refine gi_ild hC dX4_part_119 rfl ?_
              refine gi_if_ne hC 167 dX4_part_121 (by decide) (fun h5 => ?_) (fun h5 => ?_)
              · exact NX _
              · exact absurd h5 (by decide)
  have LB : ∀ m i (p : Nat → Option Nat) (σ2 : gm_S) (w4 w5 : Option Value), i + m = 24 → mFR σ σ2 → mG σ2 n ps U V → bm (σ2.1 5 3) H → mP σ2 p → gp_ok U V k p → (∀ x, p x ≠ none ↔ fxi H i x = true) → mZ σ2 9 (fun _ => false) → gm_G X E 6 37 [some (.ref (E.2.2 5)), some (.int (nI k)), some (.int 1), some (.int (nI i)), w4, w5] [] σ2 := by
    intro m
    induction m with
    | zero =>
      intro i p σ2 w4 w5 hi0 hfr hG hb hp hok hd hz
      have hi0 : i = 24 := by omega
      subst hi0
      refine gi_ildn hC dX4_part_37 rfl ?_
      refine gi_bipush hC (v := 24) dX4_part_38 (by decide) ?_
      refine gi_icmp_ge hC 80 dX4_part_40 (by decide) (fun h1 => ?_) (fun h1 => ?_)
      ·
        refine gi_const hC (v := 0) dX4_part_80 (by decide) ?_
        refine gi_istn_3 hC dX4_part_81 (by decide) ?_
        refine LC 24 0 p σ2 _ _ rfl hfr hG hb hp hok (fun x => (hd x).trans ?_) (fun x hx => by rw [hz x hx]; simp [fxi]) (fun e he => absurd he (Nat.not_lt_zero e))
        constructor
        · intro z; simp [fxi] at z; exact z.1
        · intro z; simp [fxi, z, hH24 x z]
      · exact absurd (Int32.le_refl _) h1
    | succ m ih =>
      intro i p σ2 w4 w5 hi0 hfr hG hb hp hok hd hz
      refine gi_ildn hC dX4_part_37 rfl ?_
      refine gi_bipush hC (v := 24) dX4_part_38 (by decide) ?_
      refine gi_icmp_ge hC 80 dX4_part_40 (by decide) (fun h1 => ?_) (fun h1 => ?_)
      · exact absurd h1 (nI_ge (a := i) (b := 24) (by omega) (by omega))
      ·
        refine gi_aldn hC dX4_part_43 rfl ?_
        refine gf_M_heldBits hC gw_319 dX4_part_44 ?_
        refine gi_ildn hC dX4_part_47 rfl ?_
        refine gi_ishr hC dX4_part_48 ?_
        refine gi_const hC (v := 1) dX4_part_49 (by decide) ?_
        refine gi_iand hC dX4_part_50 ?_
        refine gi_const hC (v := 1) dX4_part_51 (by decide) ?_
        rw [bm_tst hb (by omega)]
        refine gi_icmp_ne hC 74 dX4_part_52 (by decide) (fun h2 => ?_) (fun h2 => ?_)
        ·
          have hHi : H i = false := by
            cases hq : H i
            · rfl
            · rw [hq] at h2; exact absurd rfl h2
          refine gi_iinc_3 hC dX4_part_74 (nI_1 i) (by decide) ?_
          refine gi_goto hC 37 dX4_part_77 (by decide) ?_
          exact ih (i + 1) p σ2 _ _ (by omega) hfr hG hb hp hok (fun x => (hd x).trans (by rw [fxi_n hHi])) hz
        ·
          have hHi : H i = true := by
            cases hq : H i
            · rw [hq] at h2; exact absurd h2 (by decide)
            · rfl
          have hpi : p i = none := by
            cases hq : p i with
            | none => rfl
            | some f =>
              have := (hd i).mp (by rw [hq]; exact fun z => by cases z)
              simp [fxi] at this
          have hHd : ∀ x, p x ≠ none ∨ x = i → H x = true := fun x hx => by
            rcases hx with hx | hx
            · have := (hd x).mp hx; simp [fxi] at this; exact this.1
            · rw [hx]; exact hHi
          refine gi_aldn hC dX4_part_55 rfl ?_
          refine gi_ildn hC dX4_part_56 rfl ?_
          refine gi_ildn hC dX4_part_57 rfl ?_
          refine gk_VI (n := 2) hC (fun l => c_X4_place l E σ2 U V hG.2.2.2.2.1 p hp (fun _ => false) hz k hk hok (fun x hx => hH24 x (hHd x (Or.inl hx))) i (by omega) hpi (fun x hx => hHne x (hHd x hx)) (fun x hx => by cases hx)) (gm_o4 E) rfl (gw_V gw_416 gw_418 gw_16 gw_28 gw_419) rfl ⟨rfl, rfl⟩ rfl (by decide +kernel) ⟨by decide, by decide⟩ (Nat.le_of_ble_eq_true rfl) dX4_part_58 (fun r σ3 h4 => ?_)
          obtain ⟨h4f, h4⟩ := h4
          have h4g : gm_fr σ2 σ3 (fun _ _ => False) (fun y => 8 ≤ y ∧ y ≤ 14) := gm_fr_mono h4f (fun _ _ q => q) (fun y hy => by omega)
          obtain ⟨hG3, hb3⟩ := hkeep _ _ h4g hG hb
          have hfr3 := mFR_tr hfr (hmf _ _ h4g)
          have hz3 : mZ σ3 9 (fun _ => false) := fun x hx => by rw [h4f.2 9 (by decide)]; exact hz x hx
          rcases h4 with ⟨rfl, p2, b1, b2, b3, -⟩ | ⟨-, -, b2⟩
          ·
            refine gi_if_eq hC 72 dX4_part_61 (by decide) (fun h5 => ?_) (fun h5 => ?_)
            · exact absurd h5 (by decide)
            ·
              refine gi_ildn hC dX4_part_64 rfl ?_
              refine gi_if_eq hC 72 dX4_part_65 (by decide) (fun h6 => ?_) (fun h6 => ?_)
              · exact absurd h6 (by decide)
              ·
                refine gi_const hC (v := 1) dX4_part_68 (by decide) ?_
                refine gi_goto hC 73 dX4_part_69 (by decide) ?_
                refine gi_istn_2 hC dX4_part_73 (by decide) ?_
                refine gi_iinc_3 hC dX4_part_74 (nI_1 i) (by decide) ?_
                refine gi_goto hC 37 dX4_part_77 (by decide) ?_
                refine ih (i + 1) p2 σ3 _ _ (by omega) hfr3 hG3 hb3 b1 b2 (fun x => (b3 x).trans ?_) hz3
                rw [hd x, ← fxi_s hHi]
                simp
          · exact absurd (gp_fix_fit (gp_fit_sub hFit hHd) (fun e he => by cases he)) b2
  have LA : ∀ m i (σ2 : gm_S) (w3 w4 w5 : Option Value), i + m = 24 → mFR σ σ2 → mG σ2 n ps U V → bm (σ2.1 5 3) H → (∀ x, x < i → σ2.2 8 x = -1 ∧ σ2.2 9 x = 0) → gm_G X E 6 7 [some (.ref (E.2.2 5)), some (.int (nI k)), some (.int (nI i)), w3, w4, w5] [] σ2 := by
    intro m
    induction m with
    | zero =>
      intro i σ2 w3 w4 w5 hi0 hfr hG hb hz
      have hi0 : i = 24 := by omega
      subst hi0
      refine gi_ildn hC dX4_part_7 rfl ?_
      refine gi_bipush hC (v := 24) dX4_part_8 (by decide) ?_
      refine gi_icmp_ge hC 33 dX4_part_10 (by decide) (fun h1 => ?_) (fun h1 => ?_)
      ·
        refine gi_const hC (v := 1) dX4_part_33 (by decide) ?_
        refine gi_istn_2 hC dX4_part_34 (by decide) ?_
        refine gi_const hC (v := 0) dX4_part_35 (by decide) ?_
        refine gi_istn_3 hC dX4_part_36 (by decide) ?_
        refine LB 24 0 (fun _ => none) σ2 _ _ rfl hfr hG hb (fun x hx => ⟨(hz x hx).1, fun _ h => by cases h⟩) ⟨fun _ _ h => (by cases h), fun i _ e he => (by cases he)⟩ (fun x => ⟨fun z => absurd rfl z, fun z => by simp [fxi] at z⟩) (fun x hx => by rw [(hz x hx).2]; rfl)
      · exact absurd (Int32.le_refl _) h1
    | succ m ih =>
      intro i σ2 w3 w4 w5 hi0 hfr hG hb hz
      refine gi_ildn hC dX4_part_7 rfl ?_
      refine gi_bipush hC (v := 24) dX4_part_8 (by decide) ?_
      refine gi_icmp_ge hC 33 dX4_part_10 (by decide) (fun h1 => ?_) (fun h1 => ?_)
      · exact absurd h1 (nI_ge (a := i) (b := 24) (by omega) (by omega))
      ·
        refine gi_aldn hC dX4_part_13 rfl ?_
        refine gf_M_forestOf hC gw_320 dX4_part_14 ?_
        refine gi_ildn hC dX4_part_17 rfl ?_
        refine gi_const hC (v := -1) dX4_part_18 (by decide) ?_
        refine gi_iast hC (gm_i8 E) (j := i) (by omega) rfl (by first | decide | omega) dX4_part_19 ?_
        refine gi_aldn hC dX4_part_20 rfl ?_
        refine gf_M_isFixed hC gw_321 dX4_part_21 ?_
        refine gi_ildn hC dX4_part_24 rfl ?_
        refine gi_const hC (v := 0) dX4_part_25 (by decide) ?_
        refine gi_zast hC (gm_i9 E) (j := i) (by omega) rfl (Or.inl rfl) (by decide) dX4_part_26 ?_
        refine gi_iinc_2 hC dX4_part_27 (nI_1 i) (by decide) ?_
        refine gi_goto hC 7 dX4_part_30 (by decide) ?_
        have hfa : gm_fr σ2 (gm_ar (gm_ar σ2 8 i (-1)) 9 i 0) (fun _ _ => False) (fun y => 8 ≤ y ∧ y ≤ 14) := gm_fr_tr (gm_fr_ar (by decide)) (gm_fr_ar (by decide))
        obtain ⟨d1, d2⟩ := hkeep _ _ hfa hG hb
        refine ih (i + 1) _ _ _ _ (by omega) (mFR_tr hfr (hmf _ _ hfa)) d1 d2 (fun x hx => ?_)
        by_cases q : x = i
        · subst q
          exact ⟨by rw [gm_ar_r _ _ (by decide), gm_ar_2], gm_ar_2 _ _ _ _⟩
        · rw [gm_ar_r (y := 8) _ _ (by decide), gm_ar_n _ _ (fun z => q z.2), gm_ar_n _ _ (fun z => q z.2), gm_ar_r (y := 9) _ _ (by decide)]
          exact hz x (by omega)
  refine gi_aldn hC dX4_part_0 rfl ?_
  refine gi_ildn hC dX4_part_1 rfl ?_
  refine gk_VV (n := 1) hC (fun l => c_X4_hold l E σ n ps U V hM k hk) (gm_o4 E) rfl (gw_V gw_385 gw_387 gw_11 gw_28 gw_388) rfl ⟨rfl, rfl⟩ rfl (by decide +kernel) ⟨by decide, by decide⟩ (Nat.le_of_ble_eq_true rfl) dX4_part_2 (fun σ1 h1 => ?_)
  refine gi_const hC (v := 0) dX4_part_5 (by decide) ?_
  refine gi_istn_2 hC dX4_part_6 (by decide) ?_
  exact LA 24 0 σ1 _ _ _ rfl (hFR_m h1.1) (mG_h h1.1 hM) (by rw [hH]; exact h1.2) (fun x hx => absurd hx (Nat.not_lt_zero x))
set_option maxHeartbeats 4000000 in
set_option maxRecDepth 100000 in
theorem c_X4_forest (l : Launch) (E : gm_E) (σ : gm_S) (n : Nat) (ps : Nat → Bool) (U V : Nat → Nat) (hM : mG σ n ps U V) (hFit : ∀ kk, kk < 7 → gp_fit U V kk (fun e => hdd n U V ps kk e = true)) (k a : Int32) : gm_MI l E yX4_forest (.code yX4_forest cX4_forest 3 (some .int) :: gw_T) { frames := 4, cells := 0, slots := 0, locals := 110 } [.ref (E.2.2 5), .int k, .int a] σ (fun r σ2 => mFR σ σ2 ∧ mG σ2 n ps U V ∧ ((r = -2 ∧ ¬ ∃ j, j < 7 ∧ k = nI j) ∨ ∃ kk, kk < 7 ∧ k = nI kk ∧ ((r = -1 ∧ ¬ ∃ e, e < 24 ∧ a = nI e ∧ ps e = true) ∨ ∃ e, e < 24 ∧ a = nI e ∧ ps e = true ∧ ∃ p, gp_ok U V kk p ∧ (∀ e, p e ≠ none ↔ hdd n U V ps kk e = true) ∧ LM U V kk (hdd n U V ps kk) p 24 ∧ r = oI (p e)))) := by
  refine gm_enterI RX4 (by decide +kernel) rfl rfl (Nat.le_of_ble_eq_true rfl) (gm_c1_ok rfl) ?_
  intro X hC hR
  show gm_G X E 3 0 [some (.ref (E.2.2 5)), some (.int k), some (.int a)] [] σ
  obtain ⟨g1, g2, g3, g4, g5, g6, g7⟩ := id hM
  refine gi_ildn hC dX4_forest_0 rfl ?_
  refine gk_SI (n := 1) hC (fun l => c_X4_isK l E σ k) (gw_S gw_382 gw_383 gw_28 gw_384) rfl ⟨rfl, rfl⟩ rfl (by decide +kernel) ⟨by decide, by decide⟩ (Nat.le_of_ble_eq_true rfl) dX4_forest_1 (fun r σ1 h1 => ?_)
  obtain ⟨h1, rfl⟩ := h1
  refine gi_if_ne hC 10 dX4_forest_4 (by decide) (fun h2 => ?_) (fun h2 => ?_)
  ·
    obtain ⟨kk, hk, rfl⟩ : ∃ j, j < 7 ∧ k = nI j := by
      rcases h1 with ⟨-, z⟩ | ⟨z, -⟩
      · exact z
      · exact absurd z h2
    refine gi_aldn hC dX4_forest_10 rfl ?_
    refine gi_ildn hC dX4_forest_11 rfl ?_
    refine gk_VI (n := 1) hC (fun l => c_X4_has l E σ1 ps g4 a) (gm_o4 E) rfl (gw_V gw_374 gw_376 gw_10 gw_28 gw_377) rfl ⟨rfl, rfl⟩ rfl (by decide +kernel) ⟨by decide, by decide⟩ (Nat.le_of_ble_eq_true rfl) dX4_forest_12 (fun r3 σ3 h3 => ?_)
    obtain ⟨h3, rfl⟩ := h3
    refine gi_if_ne hC 20 dX4_forest_15 (by decide) (fun h4 => ?_) (fun h4 => ?_)
    ·
      obtain ⟨e, he, rfl, hpe⟩ : ∃ j, j < 24 ∧ a = nI j ∧ ps j = true := by
        rcases h3 with ⟨-, z⟩ | ⟨z, -⟩
        · exact z
        · exact absurd z h4
      refine gi_aldn hC dX4_forest_20 rfl ?_
      refine gi_ildn hC dX4_forest_21 rfl ?_
      refine gk_VV (n := 1) hC (fun l => c_X4_part l E σ3 n ps U V hM kk hk (hFit kk hk)) (gm_o4 E) rfl (gw_V gw_412 gw_414 gw_15 gw_28 gw_415) rfl ⟨rfl, rfl⟩ rfl (by decide +kernel) ⟨by decide, by decide⟩ (Nat.le_of_ble_eq_true rfl) dX4_forest_22 (fun σ5 h5 => ?_)
      obtain ⟨b1, b2, b3, p, b4, b5, b6, b7⟩ := h5
      obtain ⟨p1, p2⟩ := b4 e he
      refine gi_aldn hC dX4_forest_25 rfl ?_
      refine gf_M_heldBits hC gw_319 dX4_forest_26 ?_
      refine gi_ildn hC dX4_forest_29 rfl ?_
      refine gi_ishr hC dX4_forest_30 ?_
      refine gi_const hC (v := 1) dX4_forest_31 (by decide) ?_
      refine gi_iand hC dX4_forest_32 ?_
      refine gi_const hC (v := 1) dX4_forest_33 (by decide) ?_
      rw [bm_tst b3 (by omega)]
      refine gi_icmp_ne hC 46 dX4_forest_34 (by decide) (fun h6 => ?_) (fun h6 => ?_)
      ·
        have hpe2 : p e = none := by
          cases hq : p e with
          | none => rfl
          | some f =>
            have := (b6 e).mp (by rw [hq]; exact fun z => by cases z)
            rw [this] at h6
            exact absurd rfl h6
        refine gi_const hC (v := -1) dX4_forest_46 (by decide) ?_
        exact hR _ _ _ _ rfl ⟨b1, b2, Or.inr ⟨kk, hk, rfl, Or.inr ⟨e, he, rfl, hpe, p, b5, b6, b7, by rw [hpe2]; rfl⟩⟩⟩ dX4_forest_47
      ·
        refine gi_aldn hC dX4_forest_37 rfl ?_
        refine gf_M_forestOf hC gw_320 dX4_forest_38 ?_
        refine gi_ildn hC dX4_forest_41 rfl ?_
        refine gi_iald hC (gm_i8 E) he rfl (by first | decide | omega) dX4_forest_42 ?_
        rw [p1]
        refine gi_goto hC 47 dX4_forest_43 (by decide) ?_
        exact hR _ _ _ _ rfl ⟨b1, b2, Or.inr ⟨kk, hk, rfl, Or.inr ⟨e, he, rfl, hpe, p, b5, b6, b7, rfl⟩⟩⟩ dX4_forest_47
    ·
      have hna : ¬ ∃ j, j < 24 ∧ a = nI j ∧ ps j = true := by
        rcases h3 with ⟨z, -⟩ | ⟨-, z⟩
        · rw [z] at h4; exact absurd h4 (by decide)
        · exact z
      refine gi_const hC (v := -1) dX4_forest_18 (by decide) ?_
      exact hR _ _ _ _ rfl ⟨mFR_rf, hM, Or.inr ⟨kk, hk, rfl, Or.inl ⟨rfl, hna⟩⟩⟩ dX4_forest_19
  ·
    have hn : ¬ ∃ j, j < 7 ∧ k = nI j := by
      rcases h1 with ⟨z, -⟩ | ⟨-, z⟩
      · rw [z] at h2; exact absurd h2 (by decide)
      · exact z
    refine gi_bipush hC (v := -2) dX4_forest_7 (by decide) ?_
    exact hR _ _ _ _ rfl ⟨mFR_rf, hM, Or.inl ⟨rfl, hn⟩⟩ dX4_forest_9
