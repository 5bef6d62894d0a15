/-! THE REFERENCE: join, why, classes, crossing, arboricity, dense, spanning, told -/
def marb (n : Nat) (U V : Nat → Nat) (ps : Nat → Bool) (r : Int32) : Prop := (∃ kk, kk < 7 ∧ r = nI kk ∧ cnt_lp (hdd n U V ps kk) 24 0 0 = cnt_lp ps 24 0 0 ∧ ∀ k2, k2 < kk → cnt_lp (hdd n U V ps k2) 24 0 0 ≠ cnt_lp ps 24 0 0) ∨ (r = -1 ∧ ∀ k2, k2 < 7 → cnt_lp (hdd n U V ps k2) 24 0 0 ≠ cnt_lp ps 24 0 0)
theorem cnt_eq {P Q : Nat → Bool} : ∀ n e c, (∀ i, e ≤ i → i < e + n → P i = Q i) → cnt_lp P n e c = cnt_lp Q n e c
  | 0, _, _, _ => rfl
  | n + 1, e, c, h => by
    rw [cnt_lp, cnt_lp, h e (Nat.le_refl e) (by omega)]
    split
    · exact cnt_eq n (e + 1) (c + 1) (fun i h1 h2 => h i (by omega) (by omega))
    · exact cnt_eq n (e + 1) c (fun i h1 h2 => h i (by omega) (by omega))
theorem cnt_lt24 (P : Nat → Bool) : cnt_lp P 24 0 0 ≤ 24 := by have := cnt_lp_le P 24 0 0; omega
theorem hd_sub (n : Nat) (U V : Nat → Nat) (ps : Nat → Bool) (k : Nat) : ∀ m e S, (∀ i, S i = true → ps i = true) → ∀ i, hd_lp n U V ps k m e S i = true → ps i = true
  | 0, _, _, h, i, hi => h i hi
  | m + 1, e, S, h, i, hi => by
    rw [hd_lp] at hi
    split at hi
    · rename_i hc
      refine hd_sub n U V ps k m (e + 1) _ (fun j hj => ?_) i hi
      simp only [Bool.or_eq_true, decide_eq_true_eq] at hj
      rcases hj with hj | hj
      · exact h j hj
      · rw [hj]; exact hc.1
    · exact hd_sub n U V ps k m (e + 1) S h i hi
theorem hdd_sub {n : Nat} {U V : Nat → Nat} {ps : Nat → Bool} {k i : Nat} (h : hdd n U V ps k i = true) : ps i = true := hd_sub n U V ps k 24 0 _ (fun _ z => by cases z) i h
theorem hdd_ex {n : Nat} {U V : Nat → Nat} {ps : Nat → Bool} {k : Nat} (h : cnt_lp (hdd n U V ps k) 24 0 0 ≠ cnt_lp ps 24 0 0) : ∃ e, e < 24 ∧ ps e = true ∧ hdd n U V ps k e = false := by
  refine Classical.byContradiction fun hn => h (cnt_eq 24 0 0 fun i _ hi => ?_)
  cases hb : hdd n U V ps k i
  · cases hp : ps i
    · rfl
    · exact absurd ⟨i, by omega, hp, hb⟩ hn
  · exact (hdd_sub hb).symm
/-- nothing fits into no forest -/
theorem ft_zero {n : Nat} {U V : Nat → Nat} {S : Nat → Bool} {e : Nat} (he : e < 24) (hS : S e = true) (hU : U e < n) (hV : V e < n) : ftb n U V S 0 none = false := by
  cases hb : ftb n U V S 0 none
  · rfl
  · exfalso
    have hp1 : (2 ^ U e ||| 2 ^ V e).testBit (U e) = true := by rw [Nat.testBit_or, Nat.testBit_two_pow_self]; rfl
    have hp2 : (2 ^ U e ||| 2 ^ V e).testBit (V e) = true := by rw [Nat.testBit_or, Nat.testBit_two_pow_self]; simp
    have hlt : 2 ^ U e ||| 2 ^ V e < 2 ^ n := Nat.or_lt_two_pow (Nat.pow_lt_pow_right (by omega) hU) (Nat.pow_lt_pow_right (by omega) hV)
    have hpos : 1 ≤ 2 ^ U e ||| 2 ^ V e := by
      rcases Nat.eq_zero_or_pos (2 ^ U e ||| 2 ^ V e) with z | z
      · rw [z] at hp1; simp at hp1
      · exact z
    have h1 := ftb_iff.mp hb _ hpos hlt
    have h2 := cnt_lp_pos (P := fun d => S d && (2 ^ U e ||| 2 ^ V e).testBit (U d) && (2 ^ U e ||| 2 ^ V e).testBit (V d)) (i := e) (by rw [hS, hp1, hp2]; rfl) 24 0 (m0 (2 ^ U e ||| 2 ^ V e) none) (Nat.zero_le _) (by omega)
    unfold wcn at h1
    omega
theorem hd_zero {n : Nat} {U V : Nat → Nat} {ps : Nat → Bool} (hp : ∀ e, ps e = true → U e < V e ∧ V e < n) : ∀ m e, e + m ≤ 24 → hd_lp n U V ps 0 m e (fun _ => false) = (fun _ => false)
  | 0, _, _ => rfl
  | m + 1, e, h => by
    rw [hd_lp, if_neg]
    · exact hd_zero hp m (e + 1) (by omega)
    · rintro ⟨h1, h2⟩
      have := hp e h1
      rw [ft_zero (e := e) (by omega) (by simp) (by omega) (by omega)] at h2
      cases h2
theorem cnt_none : ∀ n e c, cnt_lp (fun _ => false) n e c = c
  | 0, _, _ => rfl
  | n + 1, e, c => by rw [cnt_lp, if_neg Bool.false_ne_true]; exact cnt_none n (e + 1) c
set_option maxHeartbeats 4000000 in
set_option maxRecDepth 100000 in
theorem c_X4_join (l : Launch) (E : gm_E) (σ : gm_S) (n : Nat) (ps : Nat → Bool) (U V : Nat → Nat) (hM : mG σ n ps U V) (a b : Int32) : gm_MI l E yX4_join (.code yX4_join cX4_join 4 (some .int) :: gw_T) { frames := 2, cells := 0, slots := 0, locals := 43 } [.ref (E.2.2 5), .int a, .int b] σ (fun r σ2 => mFR σ σ2 ∧ ((r = -2 ∧ (¬ ∃ i j, i < n ∧ j < n ∧ i ≠ j ∧ a = nI i ∧ b = nI j) ∧ mG σ2 n ps U V) ∨ ∃ i j, i < n ∧ j < n ∧ i ≠ j ∧ a = nI i ∧ b = nI j ∧ ((r = -3 ∧ (∀ e, e < 24 → ps e = true) ∧ mG σ2 n ps U V) ∨ ∃ e, e < 24 ∧ r = nI e ∧ ps e = false ∧ (∀ d, d < e → ps d = true) ∧ mG σ2 n (fun d => ps d || decide (d = e)) (va_up U e (min i j)) (va_up V e (max i j))))) := by
  refine gm_enterI RX4 (by decide +kernel) rfl rfl (Nat.le_of_ble_eq_true rfl) (gm_c1_ok rfl) ?_
  intro X hC hR
  show gm_G X E 4 0 [some (.ref (E.2.2 5)), some (.int a), some (.int b), none] [] σ
  obtain ⟨g1, g2, g3, g4, g5, g6, g7⟩ := id hM
  refine gi_aldn hC dX4_join_0 rfl ?_
  refine gi_ildn hC dX4_join_1 rfl ?_
  refine gk_VI (n := 1) hC (fun l => c_X4_isVertex l E σ n g1 g2 g3 a) (gm_o4 E) rfl (gw_V gw_366 gw_368 gw_9 gw_28 gw_369) rfl ⟨rfl, rfl⟩ rfl (by decide +kernel) ⟨by decide, by decide⟩ (Nat.le_of_ble_eq_true rfl) dX4_join_2 (fun r1 σ1 h1 => ?_)
  obtain ⟨h1, rfl⟩ := h1
  refine gi_if_eq hC 21 dX4_join_5 (by decide) (fun h2 => ?_) (fun h2 => ?_)
  ·
    have hn : ¬ ∃ j, j < n ∧ a = nI j := by
      rcases h1 with ⟨z, -⟩ | ⟨-, z⟩
      · rw [z] at h2; exact absurd h2 (by decide)
      · exact z
    refine gi_bipush hC (v := -2) dX4_join_21 (by decide) ?_
    exact hR _ _ _ _ rfl ⟨mFR_rf, Or.inl ⟨rfl, fun ⟨i, j, c1, c2, c3, c4, c5⟩ => hn ⟨i, c1, c4⟩, hM⟩⟩ dX4_join_23
  ·
    obtain ⟨i, hi, rfl⟩ : ∃ j, j < n ∧ a = nI j := by
      rcases h1 with ⟨-, z⟩ | ⟨z, -⟩
      · exact z
      · exact absurd z h2
    refine gi_aldn hC dX4_join_8 rfl ?_
    refine gi_ildn hC dX4_join_9 rfl ?_
    refine gk_VI (n := 1) hC (fun l => c_X4_isVertex l E σ1 n g1 g2 g3 b) (gm_o4 E) rfl (gw_V gw_366 gw_368 gw_9 gw_28 gw_369) rfl ⟨rfl, rfl⟩ rfl (by decide +kernel) ⟨by decide, by decide⟩ (Nat.le_of_ble_eq_true rfl) dX4_join_10 (fun r2 σ2 h3 => ?_)
    obtain ⟨h3, rfl⟩ := h3
    refine gi_if_eq hC 21 dX4_join_13 (by decide) (fun h4 => ?_) (fun h4 => ?_)
    ·
      have hn : ¬ ∃ j, j < n ∧ b = nI j := by
        rcases h3 with ⟨z, -⟩ | ⟨-, z⟩
        · rw [z] at h4; exact absurd h4 (by decide)
        · exact z
      refine gi_bipush hC (v := -2) dX4_join_21 (by decide) ?_
      exact hR _ _ _ _ rfl ⟨mFR_rf, Or.inl ⟨rfl, fun ⟨i, j, c1, c2, c3, c4, c5⟩ => hn ⟨j, c2, c5⟩, hM⟩⟩ dX4_join_23
    ·
      obtain ⟨j, hj, rfl⟩ : ∃ j, j < n ∧ b = nI j := by
        rcases h3 with ⟨-, z⟩ | ⟨z, -⟩
        · exact z
        · exact absurd z h4
      refine gi_ildn hC dX4_join_16 rfl ?_
      refine gi_ildn hC dX4_join_17 rfl ?_
      refine gi_icmp_ne hC 24 dX4_join_18 (by decide) (fun h5 => ?_) (fun h5 => ?_)
      ·
        have hij : i ≠ j := fun e => h5 (by rw [e])
        have T : ∀ e, e ≤ 24 → (∀ d, d < e → ps d = true) → (e < 24 → ps e = false) → gm_G X E 4 47 [some (.ref (E.2.2 5)), some (.int (nI i)), some (.int (nI j)), some (.int (nI e))] [] σ2 := by
          intro e he0 hd hpe
          refine gi_ildn hC dX4_join_47 rfl ?_
          refine gi_bipush hC (v := 24) dX4_join_48 (by decide) ?_
          refine gi_icmp_ne hC 56 dX4_join_50 (by decide) (fun h6 => ?_) (fun h6 => ?_)
          ·
            have he : e < 24 := by
              rcases Nat.lt_or_ge e 24 with z | z
              · exact z
              · exact absurd (by rw [show e = 24 by omega]; rfl) h6
            have F2 : ∀ (σ3 : gm_S), gm_fr σ2 σ3 (fun x _ => x = 5) (fun y => 6 ≤ y ∧ y ≤ 14) → σ3.1 = σ2.1 → (∀ d, d < 24 → d ≠ e → σ3.2 6 (2 * d) = σ2.2 6 (2 * d) ∧ σ3.2 6 (2 * d + 1) = σ2.2 6 (2 * d + 1)) → σ3.2 6 (2 * e) = nI (min i j) → (∀ d, σ3.2 7 d = if d = e then 1 else σ2.2 7 d) → gm_G X E 4 81 [some (.ref (E.2.2 5)), some (.int (nI i)), some (.int (nI j)), some (.int (nI e))] [] σ3 := by
              intro σ3 a1 a2 a3 a4 a5
              have F3 : gm_G X E 4 100 [some (.ref (E.2.2 5)), some (.int (nI i)), some (.int (nI j)), some (.int (nI e))] [.int (nI (max i j)), .int (2 * nI e + 1), .ref (E.2.2 6)] σ3 := by
                refine gi_iast hC (gm_i6 E) (j := 2 * e + 1) (by omega) (by rw [show (2 : Int32) = nI 2 from rfl, pk_mul, nI_1]) (by first | decide | omega) dX4_join_100 ?_
                refine gi_ildn hC dX4_join_101 rfl ?_
                refine hR _ _ _ _ rfl ⟨gm_fr_tr a1 (gm_fr_ar (by omega)), Or.inr ⟨i, j, hi, hj, hij, rfl, rfl, Or.inr ⟨e, he, rfl, hpe he, hd, g1, g2, by rw [gm_ar_1, a2]; exact g3, fun d hd2 => ?_, fun d hd2 => ?_, fun d hd2 => ?_, fun d hd2 => ?_⟩⟩⟩ dX4_join_102
                · rw [gm_ar_n _ _ (by omega), a5]
                  by_cases hde : d = e
                  · subst hde; simp
                  · rw [if_neg hde, g4 d hd2]; simp [hde]
                · by_cases hde : d = e
                  · subst hde
                    rw [va_up_self, va_up_self, gm_ar_n _ _ (by omega), gm_ar_2]
                    exact ⟨a4, rfl, by omega, by omega⟩
                  · rw [va_up_ne _ _ hde, va_up_ne _ _ hde, gm_ar_n _ _ (by omega), gm_ar_n _ _ (by omega), (a3 d hd2 hde).1, (a3 d hd2 hde).2]
                    exact g5 d hd2
                · show (ps d || decide (d = e)) = false
                  rw [g6 d hd2]; simp; omega
                · by_cases hde : d = e
                  · subst hde
                    rw [va_up_self, va_up_self]
                    omega
                  · rw [va_up_ne _ _ hde, va_up_ne _ _ hde]
                    exact g7 d (by simpa [hde] using hd2)
              refine gi_aldn hC dX4_join_81 rfl ?_
              refine gf_M_ends hC gw_317 dX4_join_82 ?_
              refine gi_const hC (v := 2) dX4_join_85 (by decide) ?_
              refine gi_ildn hC dX4_join_86 rfl ?_
              refine gi_imul hC dX4_join_87 ?_
              refine gi_const hC (v := 1) dX4_join_88 (by decide) ?_
              refine gi_iadd hC dX4_join_89 ?_
              refine gi_ildn hC dX4_join_90 rfl ?_
              refine gi_ildn hC dX4_join_91 rfl ?_
              refine gi_icmp_ge hC 99 dX4_join_92 (by decide) (fun h8 => ?_) (fun h8 => ?_)
              ·
                rw [nI_leI (by omega) (by omega)] at h8
                refine gi_ildn hC dX4_join_99 rfl ?_
                have hm : max i j = i := Nat.max_eq_left h8
                rw [hm] at F3
                exact F3
              ·
                rw [nI_leI (by omega) (by omega)] at h8
                refine gi_ildn hC dX4_join_95 rfl ?_
                refine gi_goto hC 100 dX4_join_96 (by decide) ?_
                have hm : max i j = j := Nat.max_eq_right (by omega)
                rw [hm] at F3
                exact F3
            have F1 : gm_G X E 4 80 [some (.ref (E.2.2 5)), some (.int (nI i)), some (.int (nI j)), some (.int (nI e))] [.int (nI (min i j)), .int (2 * nI e), .ref (E.2.2 6)] (gm_ar σ2 7 e 1) := by
              refine gi_iast hC (gm_i6 E) (j := 2 * e) (by omega) (by rw [show (2 : Int32) = nI 2 from rfl, pk_mul]) (by first | decide | omega) dX4_join_80 ?_
              refine F2 _ (gm_fr_tr (gm_fr_ar (by omega)) (gm_fr_ar (by omega))) rfl (fun d hd2 hde => ?_) (gm_ar_2 _ _ _ _) (fun d => ?_)
              · rw [gm_ar_n _ _ (by omega), gm_ar_n _ _ (by omega), gm_ar_n _ _ (by omega), gm_ar_n _ _ (by omega)]
                exact ⟨rfl, rfl⟩
              · rw [gm_ar_r _ _ (by omega)]
                by_cases hde : d = e
                · subst hde; rw [gm_ar_2, if_pos rfl]
                · rw [gm_ar_n _ _ (fun z => hde z.2), if_neg hde]
            refine gi_aldn hC dX4_join_56 rfl ?_
            refine gf_M_isEdge hC gw_318 dX4_join_57 ?_
            refine gi_ildn hC dX4_join_60 rfl ?_
            refine gi_const hC (v := 1) dX4_join_61 (by decide) ?_
            refine gi_zast hC (gm_i7 E) he rfl (Or.inr rfl) (by decide) dX4_join_62 ?_
            refine gi_aldn hC dX4_join_63 rfl ?_
            refine gf_M_ends hC gw_317 dX4_join_64 ?_
            refine gi_const hC (v := 2) dX4_join_67 (by decide) ?_
            refine gi_ildn hC dX4_join_68 rfl ?_
            refine gi_imul hC dX4_join_69 ?_
            refine gi_ildn hC dX4_join_70 rfl ?_
            refine gi_ildn hC dX4_join_71 rfl ?_
            refine gi_icmp_ge hC 79 dX4_join_72 (by decide) (fun h7 => ?_) (fun h7 => ?_)
            ·
              rw [nI_leI (by omega) (by omega)] at h7
              refine gi_ildn hC dX4_join_79 rfl ?_
              have hm : min i j = j := Nat.min_eq_right h7
              rw [hm] at F1
              exact F1
            ·
              rw [nI_leI (by omega) (by omega)] at h7
              refine gi_ildn hC dX4_join_75 rfl ?_
              refine gi_goto hC 80 dX4_join_76 (by decide) ?_
              have hm : min i j = i := Nat.min_eq_left (by omega)
              rw [hm] at F1
              exact F1
          ·
            have he : e = 24 := (nI_eq (b := 24) (by omega) (by omega)).mp h6
            subst he
            refine gi_bipush hC (v := -3) dX4_join_53 (by decide) ?_
            exact hR _ _ _ _ rfl ⟨mFR_rf, Or.inr ⟨i, j, hi, hj, hij, rfl, rfl, Or.inl ⟨rfl, hd, hM⟩⟩⟩ dX4_join_55
        have L : ∀ m e, e + m = 24 → (∀ d, d < e → ps d = true) → gm_G X E 4 26 [some (.ref (E.2.2 5)), some (.int (nI i)), some (.int (nI j)), some (.int (nI e))] [] σ2 := by
          intro m
          induction m with
          | zero =>
            intro e he hd
            have he : e = 24 := by omega
            subst he
            refine gi_ildn hC dX4_join_26 rfl ?_
            refine gi_bipush hC (v := 24) dX4_join_27 (by decide) ?_
            refine gi_icmp_ge hC 47 dX4_join_29 (by decide) (fun h6 => ?_) (fun h6 => ?_)
            · exact T 24 (by decide) hd (fun z => by omega)
            · exact absurd (Int32.le_refl _) h6
          | succ m ih =>
            intro e he hd
            have hze := g4 e (by omega)
            refine gi_ildn hC dX4_join_26 rfl ?_
            refine gi_bipush hC (v := 24) dX4_join_27 (by decide) ?_
            refine gi_icmp_ge hC 47 dX4_join_29 (by decide) (fun h6 => ?_) (fun h6 => ?_)
            · exact absurd h6 (nI_ge (a := e) (b := 24) (by omega) (by omega))
            ·
              refine gi_aldn hC dX4_join_32 rfl ?_
              refine gf_M_isEdge hC gw_318 dX4_join_33 ?_
              refine gi_ildn hC dX4_join_36 rfl ?_
              refine gi_zald hC (gm_i7 E) (j := e) (by omega) rfl (by first | decide | omega) dX4_join_37 ?_
              rw [hze]
              refine gi_if_eq hC 47 dX4_join_38 (by decide) (fun h7 => ?_) (fun h7 => ?_)
              · exact T e (by omega) hd (fun _ => by
                cases hb : ps e
                · rfl
                · rw [hb] at h7; exact absurd h7 (by decide))
              ·
                refine gi_iinc_3 hC dX4_join_41 (nI_1 e) (by decide) ?_
                refine gi_goto hC 26 dX4_join_44 (by decide) ?_
                exact ih (e + 1) (by omega) (fun d hd2 => by
                  by_cases z : d = e
                  · subst z
                    cases hb : ps d
                    · rw [hb] at h7; exact absurd rfl h7
                    · rfl
                  · exact hd d (by omega))
        refine gi_const hC (v := 0) dX4_join_24 (by decide) ?_
        refine gi_istn_3 hC dX4_join_25 (by decide) ?_
        exact L 24 0 rfl (fun d hd => absurd hd (Nat.not_lt_zero d))
      ·
        have hij : i = j := (nI_eq (by omega) (by omega)).mp h5
        refine gi_bipush hC (v := -2) dX4_join_21 (by decide) ?_
        exact hR _ _ _ _ rfl ⟨mFR_rf, Or.inl ⟨rfl, fun ⟨i2, j2, c1, c2, c3, c4, c5⟩ => c3 (by rw [← (nI_eq (by omega) (by omega)).mp c4, ← (nI_eq (by omega) (by omega)).mp c5, hij]), hM⟩⟩ dX4_join_23
set_option maxHeartbeats 4000000 in
set_option maxRecDepth 100000 in
theorem c_X4_why (l : Launch) (E : gm_E) (σ : gm_S) (n : Nat) (ps : Nat → Bool) (U V : Nat → Nat) (hM : mG σ n ps U V) (k a f : Int32) : gm_MI l E yX4_why (.code yX4_why cX4_why 7 (some .int) :: gw_T) { frames := 3, cells := 0, slots := 0, locals := 76 } [.ref (E.2.2 5), .int k, .int a, .int f] σ (fun r σ2 => hFR σ σ2 ∧ ((r = -2 ∧ ¬ ∃ j, j < 7 ∧ k = nI j) ∨ ∃ kk, kk < 7 ∧ k = nI kk ∧ ((r = -1 ∧ ¬ ((∃ e, e < 24 ∧ a = nI e ∧ ps e = true) ∧ (f = -1 ∨ ∃ e, e < 24 ∧ f = nI e ∧ ps e = true))) ∨ ∃ e, e < 24 ∧ a = nI e ∧ ps e = true ∧ (f = -1 ∨ ∃ d, d < 24 ∧ f = nI d ∧ ps d = true) ∧ ((hdd n U V ps kk e = true ∧ r = -1) ∨ (hdd n U V ps kk e = false ∧ ((f = -1 ∧ r = nI (cnt_lp (wyb n U V (hdd n U V ps kk) kk e) 24 0 0)) ∨ ∃ d, d < 24 ∧ f = nI d ∧ r = if wyb n U V (hdd n U V ps kk) kk e d = true then 1 else 0)))))) := by
  refine gm_enterI RX4 (by decide +kernel) rfl rfl (Nat.le_of_ble_eq_true rfl) (gm_c1_ok rfl) ?_
  intro X hC hR
  show gm_G X E 7 0 [some (.ref (E.2.2 5)), some (.int k), some (.int a), some (.int f), none, none, none] [] σ
  obtain ⟨g1, g2, g3, g4, g5, g6, g7⟩ := id hM
  refine gi_ildn hC dX4_why_0 rfl ?_
  refine gk_SI (n := 1) hC (fun l => c_X4_isK l E σ k) (gw_S gw_382 gw_383 gw_28 gw_384) rfl ⟨rfl, rfl⟩ rfl (by decide +kernel) ⟨by decide, by decide⟩ (Nat.le_of_ble_eq_true rfl) dX4_why_1 (fun r σ1 h1 => ?_)
  obtain ⟨h1, rfl⟩ := h1
  refine gi_if_ne hC 10 dX4_why_4 (by decide) (fun h2 => ?_) (fun h2 => ?_)
  ·
    obtain ⟨kk, hk, rfl⟩ : ∃ j, j < 7 ∧ k = nI j := by
      rcases h1 with ⟨-, z⟩ | ⟨z, -⟩
      · exact z
      · exact absurd z h2
    refine gi_aldn hC dX4_why_10 rfl ?_
    refine gi_ildn hC dX4_why_11 rfl ?_
    refine gk_VI (n := 1) hC (fun l => c_X4_has l E σ1 ps g4 a) (gm_o4 E) rfl (gw_V gw_374 gw_376 gw_10 gw_28 gw_377) rfl ⟨rfl, rfl⟩ rfl (by decide +kernel) ⟨by decide, by decide⟩ (Nat.le_of_ble_eq_true rfl) dX4_why_12 (fun r3 σ3 h3 => ?_)
    obtain ⟨h3, rfl⟩ := h3
    have KK : ∀ e, e < 24 → a = nI e → ps e = true → (f = -1 ∨ ∃ d, d < 24 ∧ f = nI d ∧ ps d = true) → ∀ w4 w5 w6 : Option Value, gm_G X E 7 33 [some (.ref (E.2.2 5)), some (.int (nI kk)), some (.int a), some (.int f), w4, w5, w6] [] σ3 := by
      intro e he ha hpe hf w4 w5 w6
      subst ha
      refine gi_aldn hC dX4_why_33 rfl ?_
      refine gi_ildn hC dX4_why_34 rfl ?_
      refine gk_VV (n := 1) hC (fun l => c_X4_hold l E σ3 n ps U V hM kk hk) (gm_o4 E) rfl (gw_V gw_385 gw_387 gw_11 gw_28 gw_388) rfl ⟨rfl, rfl⟩ rfl (by decide +kernel) ⟨by decide, by decide⟩ (Nat.le_of_ble_eq_true rfl) dX4_why_35 (fun σ5 h5 => ?_)
      refine gi_aldn hC dX4_why_38 rfl ?_
      refine gf_M_heldBits hC gw_319 dX4_why_39 ?_
      refine gi_ildn hC dX4_why_42 rfl ?_
      refine gi_ishr hC dX4_why_43 ?_
      refine gi_const hC (v := 1) dX4_why_44 (by decide) ?_
      refine gi_iand hC dX4_why_45 ?_
      refine gi_const hC (v := 1) dX4_why_46 (by decide) ?_
      rw [bm_tst h5.2 (by omega)]
      refine gi_icmp_ne hC 52 dX4_why_47 (by decide) (fun h6 => ?_) (fun h6 => ?_)
      ·
        have hh : hdd n U V ps kk e = false := by
          cases hb : hdd n U V ps kk e
          · rfl
          · rw [hb] at h6; exact absurd rfl h6
        refine gi_aldn hC dX4_why_52 rfl ?_
        refine gi_ildn hC dX4_why_53 rfl ?_
        refine gi_ildn hC dX4_why_54 rfl ?_
        refine gk_VI (n := 2) hC (fun l => c_X4_whyBits l E σ5 n ps U V (mG_h h5.1 hM) _ h5.2 kk hk e he) (gm_o4 E) rfl (gw_V gw_436 gw_438 gw_20 gw_28 gw_439) rfl ⟨rfl, rfl⟩ rfl (by decide +kernel) ⟨by decide, by decide⟩ (Nat.le_of_ble_eq_true rfl) dX4_why_55 (fun y σ7 h7 => ?_)
        obtain ⟨h7, rfl⟩ := h7
        obtain ⟨Z, hZ⟩ : ∃ Z, Z = cnt_lp (wyb n U V (hdd n U V ps kk) kk e) 24 0 0 := ⟨_, rfl⟩
        have L : ∀ m i c, i + m = 24 → Z = cnt_lp (wyb n U V (hdd n U V ps kk) kk e) m i c → gm_G X E 7 66 [some (.ref (E.2.2 5)), some (.int (nI kk)), some (.int (nI e)), some (.int f), some (.int y), some (.int (nI c)), some (.int (nI i))] [] σ7 := by
          intro m
          induction m with
          | zero =>
            intro i c hi0 hw
            have hi0 : i = 24 := by omega
            subst hi0
            rw [cnt_lp] at hw
            refine gi_ild hC dX4_why_66 rfl ?_
            refine gi_bipush hC (v := 24) dX4_why_68 (by decide) ?_
            refine gi_icmp_ge hC 91 dX4_why_70 (by decide) (fun h8 => ?_) (fun h8 => ?_)
            ·
              refine gi_ildn hC dX4_why_91 rfl ?_
              refine gi_const hC (v := -1) dX4_why_92 (by decide) ?_
              refine gi_icmp_ne hC 101 dX4_why_93 (by decide) (fun h9 => ?_) (fun h9 => ?_)
              ·
                obtain ⟨d, hd, rfl, hpd⟩ := hf.elim (fun z => absurd z h9) id
                refine gi_ild hC dX4_why_101 rfl ?_
                refine gi_ildn hC dX4_why_103 rfl ?_
                refine gi_ishr hC dX4_why_104 ?_
                refine gi_const hC (v := 1) dX4_why_105 (by decide) ?_
                refine gi_iand hC dX4_why_106 ?_
                rw [bm_tst h7 (by omega)]
                exact hR _ _ _ _ rfl ⟨h5.1, Or.inr ⟨kk, hk, rfl, Or.inr ⟨e, he, rfl, hpe, hf, Or.inr ⟨hh, Or.inr ⟨d, hd, rfl, rfl⟩⟩⟩⟩⟩ dX4_why_107
              ·
                subst h9
                refine gi_ild hC dX4_why_96 rfl ?_
                refine gi_goto hC 107 dX4_why_98 (by decide) ?_
                exact hR _ _ _ _ rfl ⟨h5.1, Or.inr ⟨kk, hk, rfl, Or.inr ⟨e, he, rfl, hpe, hf, Or.inr ⟨hh, Or.inl ⟨rfl, by rw [← hZ, hw]⟩⟩⟩⟩⟩ dX4_why_107
            · exact absurd (Int32.le_refl _) h8
          | succ m ih =>
            intro i c hi0 hw
            rw [cnt_lp] at hw
            refine gi_ild hC dX4_why_66 rfl ?_
            refine gi_bipush hC (v := 24) dX4_why_68 (by decide) ?_
            refine gi_icmp_ge hC 91 dX4_why_70 (by decide) (fun h8 => ?_) (fun h8 => ?_)
            · exact absurd h8 (nI_ge (a := i) (b := 24) (by omega) (by omega))
            ·
              refine gi_ild hC dX4_why_73 rfl ?_
              refine gi_ild hC dX4_why_75 rfl ?_
              refine gi_ild hC dX4_why_77 rfl ?_
              refine gi_ishr hC dX4_why_79 ?_
              refine gi_const hC (v := 1) dX4_why_80 (by decide) ?_
              refine gi_iand hC dX4_why_81 ?_
              rw [bm_tst h7 (by omega)]
              by_cases hq : wyb n U V (hdd n U V ps kk) kk e i = true
              ·
                rw [if_pos hq] at hw ⊢
                refine gi_iadd hC dX4_why_82 ?_
                rw [nI_1]
                refine gi_ist_5 hC dX4_why_83 (by decide) ?_
                refine gi_iinc_6 hC dX4_why_85 (nI_1 i) (by decide) ?_
                refine gi_goto hC 66 dX4_why_88 (by decide) ?_
                exact ih (i + 1) (c + 1) (by omega) hw
              ·
                rw [if_neg hq] at hw ⊢
                refine gi_iadd hC dX4_why_82 ?_
                rw [Int32.add_zero]
                refine gi_ist_5 hC dX4_why_83 (by decide) ?_
                refine gi_iinc_6 hC dX4_why_85 (nI_1 i) (by decide) ?_
                refine gi_goto hC 66 dX4_why_88 (by decide) ?_
                exact ih (i + 1) c (by omega) hw
        refine gi_ist_4 hC dX4_why_58 (by decide) ?_
        refine gi_const hC (v := 0) dX4_why_60 (by decide) ?_
        refine gi_ist_5 hC dX4_why_61 (by decide) ?_
        refine gi_const hC (v := 0) dX4_why_63 (by decide) ?_
        refine gi_ist_6 hC dX4_why_64 (by decide) ?_
        exact L 24 0 0 rfl hZ
      ·
        have hh : hdd n U V ps kk e = true := by
          cases hb : hdd n U V ps kk e
          · rw [hb] at h6; exact absurd h6 (by decide)
          · rfl
        refine gi_const hC (v := -1) dX4_why_50 (by decide) ?_
        exact hR _ _ _ _ rfl ⟨h5.1, Or.inr ⟨kk, hk, rfl, Or.inr ⟨e, he, rfl, hpe, hf, Or.inl ⟨hh, rfl⟩⟩⟩⟩ dX4_why_51
    refine gi_if_eq hC 31 dX4_why_15 (by decide) (fun h4 => ?_) (fun h4 => ?_)
    ·
      have hna : ¬ ∃ j, j < 24 ∧ a = nI j ∧ ps j = true := by
        rcases h3 with ⟨z, -⟩ | ⟨-, z⟩
        · rw [z] at h4; exact absurd h4 (by decide)
        · exact z
      refine gi_const hC (v := -1) dX4_why_31 (by decide) ?_
      exact hR _ _ _ _ rfl ⟨gm_fr_rf, Or.inr ⟨kk, hk, rfl, Or.inl ⟨rfl, fun z => hna z.1⟩⟩⟩ dX4_why_32
    ·
      obtain ⟨e, he, ha, hpe⟩ : ∃ j, j < 24 ∧ a = nI j ∧ ps j = true := by
        rcases h3 with ⟨-, z⟩ | ⟨z, -⟩
        · exact z
        · exact absurd z h4
      refine gi_ildn hC dX4_why_18 rfl ?_
      refine gi_const hC (v := -1) dX4_why_19 (by decide) ?_
      refine gi_icmp_eq hC 33 dX4_why_20 (by decide) (fun h5 => ?_) (fun h5 => ?_)
      · exact KK e he ha hpe (Or.inl h5) _ _ _
      ·
        refine gi_aldn hC dX4_why_23 rfl ?_
        refine gi_ildn hC dX4_why_24 rfl ?_
        refine gk_VI (n := 1) hC (fun l => c_X4_has l E σ3 ps g4 f) (gm_o4 E) rfl (gw_V gw_374 gw_376 gw_10 gw_28 gw_377) rfl ⟨rfl, rfl⟩ rfl (by decide +kernel) ⟨by decide, by decide⟩ (Nat.le_of_ble_eq_true rfl) dX4_why_25 (fun r6 σ6 h6 => ?_)
        obtain ⟨h6, rfl⟩ := h6
        refine gi_if_ne hC 33 dX4_why_28 (by decide) (fun h7 => ?_) (fun h7 => ?_)
        ·
          have hf : ∃ j, j < 24 ∧ f = nI j ∧ ps j = true := by
            rcases h6 with ⟨-, z⟩ | ⟨z, -⟩
            · exact z
            · exact absurd z h7
          exact KK e he ha hpe (Or.inr hf) _ _ _
        ·
          have hnf : ¬ ∃ j, j < 24 ∧ f = nI j ∧ ps j = true := by
            rcases h6 with ⟨z, -⟩ | ⟨-, z⟩
            · rw [z] at h7; exact absurd h7 (by decide)
            · exact z
          refine gi_const hC (v := -1) dX4_why_31 (by decide) ?_
          exact hR _ _ _ _ rfl ⟨gm_fr_rf, Or.inr ⟨kk, hk, rfl, Or.inl ⟨rfl, fun z => z.2.elim h5 hnf⟩⟩⟩ dX4_why_32
  ·
    have hn : ¬ ∃ j, j < 7 ∧ k = nI j := by
      rcases h1 with ⟨z, -⟩ | ⟨-, z⟩
      · rw [z] at h2; exact absurd h2 (by decide)
      · exact z
    refine gi_bipush hC (v := -2) dX4_why_7 (by decide) ?_
    exact hR _ _ _ _ rfl ⟨gm_fr_rf, Or.inl ⟨rfl, hn⟩⟩ dX4_why_9
