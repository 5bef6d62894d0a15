/-! A PACKING: its methods -/
theorem bm_one {e : Nat} (he : e < 32) : bm (1 <<< (nI e &&& 31)) (fun i => decide (some e = some i)) := bm_eq (bm_pow he) (fun i _ => by
  by_cases h : i = e
  · subst h; simp
  · simp [h, Ne.symm h])
theorem pk_rep_put {σ σ1 : gm_S} {k : Nat} {U V : Nat → Nat} {q : pq} {e f : Nat} (hk : k < 7) (he : e < 24) (hf : f < k) (hp : pk_rep σ k q) (h1 : gm_kp σ σ1 (fun y => y = gm_P k + 5 + 3 * f + 1 ∨ y = gm_P k + 5 + 3 * f + 2)) (h2 : fr_rep σ1 (gm_P k + 5 + 3 * f) (lk 10 (q.2.1 f, q.2.2 f) (some (V e)) (some (U e)) (some e)).1 (lk 10 (q.2.1 f, q.2.2 f) (some (V e)) (some (U e)) (some e)).2) : gm_kp σ (gm_ar σ1 (gm_P k + 1) e (nI f)) (pk_R k) ∧ pk_rep (gm_ar σ1 (gm_P k + 1) e (nI f)) k (pq_put U V q e (some f)) := by
  refine ⟨gm_kp_tr (gm_kp_mono h1 (fun y hy => Or.inr (by rcases hy with r | r <;> omega))) (gm_kp_ar (Or.inl rfl)), fun d hd => ?_, fun i hi => ?_⟩
  · show _ = oI (va_up q.1 e (some f) d) ∧ ∀ i, va_up q.1 e (some f) d = some i → i < k
    by_cases hde : d = e
    · subst hde
      rw [gm_ar_2, va_up_self]
      exact ⟨rfl, fun i hi => by cases hi; exact hf⟩
    · rw [gm_ar_n _ _ (fun z => hde z.2), va_up_ne _ _ hde, h1.2 _ (by omega)]
      exact hp.1 d hd
  · show fr_rep _ _ (va_up q.2.1 f _ i) (va_up q.2.2 f _ i)
    by_cases hif : i = f
    · subst hif
      rw [va_up_self, va_up_self]
      exact fr_cong (gm_ar_r _ _ (by omega)) (gm_ar_r _ _ (by omega)) h2
    · rw [va_up_ne _ _ hif, va_up_ne _ _ hif]
      exact fr_cong ((gm_ar_r _ _ (by omega)).trans (h1.2 _ (by omega))) ((gm_ar_r _ _ (by omega)).trans (h1.2 _ (by omega))) (hp.2 i hi)
theorem pk_rep_rem {σ σ1 : gm_S} {k : Nat} {q : pq} {e f : Nat} (hk : k < 7) (he : e < 24) (hf : f < k) (hq : q.1 e = some f) (hp : pk_rep σ k q) (h1 : gm_kp σ σ1 (fun y => y = gm_P k + 5 + 3 * f + 1 ∨ y = gm_P k + 5 + 3 * f + 2)) (h2 : fr_rep σ1 (gm_P k + 5 + 3 * f) (ul (q.2.2 f) (q.2.1 f) e) (ul (q.2.2 f) (q.2.2 f) e)) : gm_kp σ (gm_ar σ1 (gm_P k + 1) e (-1)) (pk_R k) ∧ pk_rep (gm_ar σ1 (gm_P k + 1) e (-1)) k (pq_rem q e) := by
  have hr : pq_rem q e = (va_up q.1 e none, va_up q.2.1 f (ul (q.2.2 f) (q.2.1 f) e), va_up q.2.2 f (ul (q.2.2 f) (q.2.2 f) e)) := by simp only [pq_rem, hq]
  rw [hr]
  refine ⟨gm_kp_tr (gm_kp_mono h1 (fun y hy => Or.inr (by rcases hy with r | r <;> omega))) (gm_kp_ar (Or.inl rfl)), fun d hd => ?_, fun i hi => ?_⟩
  · show _ = oI (va_up q.1 e none d) ∧ ∀ i, va_up q.1 e none d = some i → i < k
    by_cases hde : d = e
    · subst hde
      rw [gm_ar_2, va_up_self]
      exact ⟨rfl, fun i hi => by cases hi⟩
    · rw [gm_ar_n _ _ (fun z => hde z.2), va_up_ne _ _ hde, h1.2 _ (by omega)]
      exact hp.1 d hd
  · show fr_rep _ _ (va_up q.2.1 f _ i) (va_up q.2.2 f _ i)
    by_cases hif : i = f
    · subst hif
      rw [va_up_self, va_up_self]
      exact fr_cong (gm_ar_r _ _ (by omega)) (gm_ar_r _ _ (by omega)) h2
    · rw [va_up_ne _ _ hif, va_up_ne _ _ hif]
      exact fr_cong ((gm_ar_r _ _ (by omega)).trans (h1.2 _ (by omega))) ((gm_ar_r _ _ (by omega)).trans (h1.2 _ (by omega))) (hp.2 i hi)
set_option maxHeartbeats 4000000 in
set_option maxRecDepth 100000 in
theorem c_X1_put (l : Launch) (E : gm_E) {kk : Nat} (hk : kk < 7) (σ : gm_S) (U V : Nat → Nat) (hg : gL σ U V) (q : pq) (hp : pk_rep σ kk q) (e : Nat) (he : e < 24) (t : Option Nat) (ht : ∀ f, t = some f → f < kk) : gm_MV l E yX1_put (.code yX1_put cX1_put 4 none :: gw_T) { frames := 1, cells := 0, slots := 0, locals := 29 } [.ref (E.2.2 (gm_P kk)), .ref (E.2.2 1), .int (nI e), .int (oI t)] σ (fun σ2 => gm_kp σ σ2 (pk_R kk) ∧ pk_rep σ2 kk (pq_put U V q e t)) := by
  refine gm_enterV RX1 (by decide +kernel) rfl rfl (Nat.le_of_ble_eq_true rfl) (gm_c1_ok rfl) ?_
  intro X hC hR
  show gm_G X E 4 0 [some (.ref (E.2.2 (gm_P kk))), some (.ref (E.2.2 1)), some (.int (nI e)), some (.int (oI t))] [] σ
  obtain ⟨g1, g2, g3, g4⟩ := hg e he
  refine gi_ildn hC dX1_put_0 rfl ?_
  refine gi_if_lt hC 44 dX1_put_1 (by decide) (fun h1 => ?_) (fun h1 => ?_)
  ·
    have htn := (oI_neg (oI_in ht (by omega))).mp h1
    subst htn
    exact hR _ _ _ ⟨gm_kp_rf, hp⟩ dX1_put_44
  ·
    obtain ⟨f, rfl⟩ : ∃ f, t = some f := by
      cases t with
      | none => exact absurd (by show (-1 : Int32) < 0; decide) h1
      | some f => exact ⟨f, rfl⟩
    have hi := ht f rfl
    refine gi_ildn hC dX1_put_4 rfl ?_
    refine gi_aldn hC dX1_put_5 rfl ?_
    refine gf_P_forests hC hk gw_95 dX1_put_6 ?_
    refine gi_alenF hC hk dX1_put_9 ?_
    refine gi_icmp_ge hC 44 dX1_put_10 (by decide) (fun h2 => ?_) (fun h2 => ?_)
    · exact absurd h2 (nI_ge (a := f) (b := kk) hi (by omega))
    ·
      refine gi_aldn hC dX1_put_13 rfl ?_
      refine gf_P_forests hC hk gw_95 dX1_put_14 ?_
      refine gi_ildn hC dX1_put_17 rfl ?_
      refine gi_aaldF hC hk hi rfl dX1_put_18 ?_
      refine gi_const hC (v := 1) dX1_put_19 (by decide) ?_
      refine gi_ildn hC dX1_put_20 rfl ?_
      refine gi_ishl hC dX1_put_21 ?_
      refine gi_aldn hC dX1_put_22 rfl ?_
      refine gf_G_lesser hC gw_46 dX1_put_23 ?_
      refine gi_ildn hC dX1_put_26 rfl ?_
      refine gi_iald hC (gm_i2 E) he rfl (by first | decide | omega) dX1_put_27 ?_
      refine gi_aldn hC dX1_put_28 rfl ?_
      refine gf_G_greater hC gw_49 dX1_put_29 ?_
      refine gi_ildn hC dX1_put_32 rfl ?_
      refine gi_iald hC (gm_i3 E) he rfl (by first | decide | omega) dX1_put_33 ?_
      rw [g1, g2]
      refine gk_VV (n := 3) hC (fun l => c_X2_link l E hk hi σ (q.2.1 f) (q.2.2 f) (hp.2 f hi) e (U e) (V e) _ he (bm_one (by omega)) g3 g4) (gm_o2 E hk hi) rfl (gw_V gw_235 gw_236 gw_237 gw_27 gw_238) rfl ⟨rfl, rfl⟩ rfl (by decide +kernel) ⟨by decide, by decide⟩ (Nat.le_of_ble_eq_true rfl) dX1_put_34 (fun σ1 h9 => ?_)
      refine gi_aldn hC dX1_put_37 rfl ?_
      refine gf_P_place hC hk gw_89 dX1_put_38 ?_
      refine gi_ildn hC dX1_put_41 rfl ?_
      refine gi_ildn hC dX1_put_42 rfl ?_
      refine gi_iast hC (gm_iR E hk 1 (by decide) (by decide)) he rfl (by first | decide | omega) dX1_put_43 ?_
      exact hR _ _ _ (pk_rep_put hk he hi hp h9.1 h9.2) dX1_put_44
set_option maxHeartbeats 4000000 in
set_option maxRecDepth 100000 in
theorem c_X1_remove (l : Launch) (E : gm_E) {kk : Nat} (hk : kk < 7) (σ : gm_S) (q : pq) (hp : pk_rep σ kk q) (e : Nat) (he : e < 24) : gm_MV l E yX1_remove (.code yX1_remove cX1_remove 3 none :: gw_T) { frames := 1, cells := 0, slots := 0, locals := 22 } [.ref (E.2.2 (gm_P kk)), .int (nI e)] σ (fun σ2 => gm_kp σ σ2 (pk_R kk) ∧ pk_rep σ2 kk (pq_rem q e)) := by
  refine gm_enterV RX1 (by decide +kernel) rfl rfl (Nat.le_of_ble_eq_true rfl) (gm_c1_ok rfl) ?_
  intro X hC hR
  show gm_G X E 3 0 [some (.ref (E.2.2 (gm_P kk))), some (.int (nI e)), none] [] σ
  obtain ⟨p1, p2⟩ := hp.1 e he
  refine gi_aldn hC dX1_remove_0 rfl ?_
  refine gf_P_place hC hk gw_89 dX1_remove_1 ?_
  refine gi_ildn hC dX1_remove_4 rfl ?_
  refine gi_iald hC (gm_iR E hk 1 (by decide) (by decide)) he rfl (by first | decide | omega) dX1_remove_5 ?_
  rw [p1]
  refine gi_istn_2 hC dX1_remove_6 (by decide) ?_
  refine gi_ildn hC dX1_remove_7 rfl ?_
  refine gi_if_lt hC 39 dX1_remove_8 (by decide) (fun h1 => ?_) (fun h1 => ?_)
  ·
    have htn := (oI_neg (oI_in p2 (by omega))).mp h1
    exact hR _ _ _ ⟨gm_kp_rf, by simp only [pq_rem, htn]; exact hp⟩ dX1_remove_39
  ·
    obtain ⟨f, hf⟩ : ∃ f, q.1 e = some f := by
      cases hq : q.1 e with
      | none => rw [hq] at h1; exact absurd (by show (-1 : Int32) < 0; decide) h1
      | some f => exact ⟨f, rfl⟩
    have hi := p2 f hf
    rw [hf]
    refine gi_ildn hC dX1_remove_11 rfl ?_
    refine gi_aldn hC dX1_remove_12 rfl ?_
    refine gf_P_forests hC hk gw_95 dX1_remove_13 ?_
    refine gi_alenF hC hk dX1_remove_16 ?_
    refine gi_icmp_ge hC 39 dX1_remove_17 (by decide) (fun h2 => ?_) (fun h2 => ?_)
    · exact absurd h2 (nI_ge (a := f) (b := kk) hi (by omega))
    ·
      refine gi_aldn hC dX1_remove_20 rfl ?_
      refine gf_P_forests hC hk gw_95 dX1_remove_21 ?_
      refine gi_ildn hC dX1_remove_24 rfl ?_
      refine gi_aaldF hC hk hi rfl dX1_remove_25 ?_
      refine gi_const hC (v := 1) dX1_remove_26 (by decide) ?_
      refine gi_ildn hC dX1_remove_27 rfl ?_
      refine gi_ishl hC dX1_remove_28 ?_
      refine gk_VV (n := 1) hC (fun l => c_X2_unlink l E hk hi σ (q.2.1 f) (q.2.2 f) (hp.2 f hi) e _ he (bm_one (by omega))) (gm_o2 E hk hi) rfl (gw_V gw_227 gw_228 gw_229 gw_27 gw_230) rfl ⟨rfl, rfl⟩ rfl (by decide +kernel) ⟨by decide, by decide⟩ (Nat.le_of_ble_eq_true rfl) dX1_remove_29 (fun σ1 h9 => ?_)
      refine gi_aldn hC dX1_remove_32 rfl ?_
      refine gf_P_place hC hk gw_89 dX1_remove_33 ?_
      refine gi_ildn hC dX1_remove_36 rfl ?_
      refine gi_const hC (v := -1) dX1_remove_37 (by decide) ?_
      refine gi_iast hC (gm_iR E hk 1 (by decide) (by decide)) he rfl (by first | decide | omega) dX1_remove_38 ?_
      exact hR _ _ _ (pk_rep_rem hk he hi hf hp h9.1 h9.2) dX1_remove_39
set_option maxHeartbeats 4000000 in
set_option maxRecDepth 100000 in
theorem c_X1_reach (l : Launch) (E : gm_E) {kk : Nat} (hk : kk < 7) (σ : gm_S) (s : sq) (hs : sr_rep σ kk s) (x : Int32) (S : Nat → Bool) (hx : bm x S) (frm : Option Nat) (hf : ∀ j, frm = some j → j < 24) : gm_MV l E yX1_reach (.code yX1_reach cX1_reach 5 none :: gw_T) { frames := 0, cells := 0, slots := 0, locals := 0 } [.ref (E.2.2 (gm_P kk)), .int x, .int (oI frm)] σ (fun σ2 => gm_fr σ σ2 (sr_F kk) (sr_R kk) ∧ sr_rep σ2 kk (rc S frm s)) := by
  refine gm_enterV RX1 (by decide +kernel) rfl rfl (Nat.le_of_ble_eq_true rfl) (gm_c1_ok rfl) ?_
  intro X hC hR
  show gm_G X E 5 0 [some (.ref (E.2.2 (gm_P kk))), some (.int x), some (.int (oI frm)), none, none] [] σ
  obtain ⟨Z, hZ⟩ : ∃ Z, Z = rc_lp S frm 24 0 s.2.1 s.2.2 := ⟨_, rfl⟩
  have L : ∀ n i (σ2 : gm_S) (y : Int32) (qq : List Nat) (ff : Nat → Option Nat), i + n = 24 → gm_fr σ σ2 (sr_F kk) (sr_R kk) → sr_rep σ2 kk (fun i => s.1 i || S i, qq, ff) → (∀ j, i ≤ j → j < 32 → bt y j = S j) → Z = rc_lp S frm n i qq ff → gm_G X E 5 15 [some (.ref (E.2.2 (gm_P kk))), some (.int x), some (.int (oI frm)), some (.int y), some (.int (nI i))] [] σ2 := by
    intro n
    induction n with
    | zero =>
      intro i σ2 y qq ff hi hfr hsr hy hw
      have hi : i = 24 := by omega
      subst hi
      rw [rc_lp] at hw
      refine gi_ild hC dX1_reach_15 rfl ?_
      refine gi_bipush hC (v := 24) dX1_reach_17 (by decide) ?_
      refine gi_icmp_ge hC 89 dX1_reach_19 (by decide) (fun h1 => ?_) (fun h1 => ?_)
      · exact hR _ _ _ ⟨hfr, by rw [rc, ← hZ, hw]; exact hsr⟩ dX1_reach_89
      · exact absurd (Int32.le_refl _) h1
    | succ n ih =>
      intro i σ2 y qq ff hi hfr hsr hy hw
      refine gi_ild hC dX1_reach_15 rfl ?_
      refine gi_bipush hC (v := 24) dX1_reach_17 (by decide) ?_
      refine gi_icmp_ge hC 89 dX1_reach_19 (by decide) (fun h1 => ?_) (fun h1 => ?_)
      · exact absurd h1 (nI_ge (a := i) (b := 24) (by omega) (by omega))
      ·
        refine gi_ildn hC dX1_reach_22 rfl ?_
        refine gi_if_eq hC 89 dX1_reach_23 (by decide) (fun h2 => ?_) (fun h2 => ?_)
        ·
          have h0 : ∀ j, i ≤ j → j < i + (n + 1) → S j = false := fun j a1 a2 => by
            rw [← hy j a1 (by omega), h2, b_0]
          rw [rc_lp_none S frm _ _ _ _ h0] at hw
          exact hR _ _ _ ⟨hfr, by rw [rc, ← hZ, hw]; exact hsr⟩ dX1_reach_89
        ·
          have NX : ∀ (σ3 : gm_S) (y3 : Int32) (qq3 : List Nat) (ff3 : Nat → Option Nat), gm_fr σ σ3 (sr_F kk) (sr_R kk) → sr_rep σ3 kk (fun i => s.1 i || S i, qq3, ff3) → (∀ j, i + 1 ≤ j → j < 32 → bt y3 j = S j) → Z = rc_lp S frm n (i + 1) qq3 ff3 → gm_G X E 5 83 [some (.ref (E.2.2 (gm_P kk))), some (.int x), some (.int (oI frm)), some (.int y3), some (.int (nI i))] [] σ3 := by
            intro σ3 y3 qq3 ff3 a1 a2 a3 a4
            refine gi_iinc_4 hC dX1_reach_83 (nI_1 i) (by decide) ?_
            refine gi_goto hC 15 dX1_reach_86 (by decide) ?_
            exact ih (i + 1) σ3 y3 qq3 ff3 (by omega) a1 a2 a3 a4
          rw [rc_lp] at hw
          refine gi_ildn hC dX1_reach_26 rfl ?_
          refine gi_ild hC dX1_reach_27 rfl ?_
          refine gi_ishr hC dX1_reach_29 ?_
          refine gi_const hC (v := 1) dX1_reach_30 (by decide) ?_
          refine gi_iand hC dX1_reach_31 ?_
          refine gi_const hC (v := 1) dX1_reach_32 (by decide) ?_
          refine gi_icmp_ne hC 83 dX1_reach_33 (by decide) (fun h3 => ?_) (fun h3 => ?_)
          ·
            have hSi : S i = false := by
              rw [← hy i (Nat.le_refl i) (by omega)]
              cases hbb : bt y i
              · rfl
              · exact absurd ((b_tst1 y (by omega)).mpr hbb) h3
            rw [if_neg (by rw [hSi]; exact fun z => by cases z.1)] at hw
            exact NX σ2 y qq ff hfr hsr (fun j b1 b2 => hy j (by omega) b2) hw
          ·
            have hSi : S i = true := by
              rw [← hy i (Nat.le_refl i) (by omega)]
              exact (b_tst1 y (by omega)).mp h3
            obtain ⟨s1, s2, s3, s4, s5⟩ := id hsr
            try dsimp only at s1 s2 s3 s4 s5
            refine gi_aldn hC dX1_reach_36 rfl ?_
            refine gf_P_queued hC hk gw_100 dX1_reach_37 ?_
            rw [s2]
            refine gi_bipush hC (v := 24) dX1_reach_40 (by decide) ?_
            refine gi_icmp_ge hC 83 dX1_reach_42 (by decide) (fun h4 => ?_) (fun h4 => ?_)
            ·
              have hq24 : ¬ qq.length < 24 := fun z => absurd h4 (nI_ge (a := qq.length) (b := 24) z (by omega))
              rw [if_neg (fun z => hq24 z.2)] at hw
              exact NX σ2 y qq ff hfr hsr (fun j b1 b2 => hy j (by omega) b2) hw
            ·
              have hq24 : qq.length < 24 := by
                rcases Nat.lt_or_ge qq.length 24 with z | z
                · exact z
                · exact absurd (nI_le (a := 24) (b := qq.length) z (by omega)) h4
              rw [if_pos ⟨hSi, hq24⟩] at hw
              refine gi_aldn hC dX1_reach_45 rfl ?_
              refine gf_P_follower hC hk gw_101 dX1_reach_46 ?_
              refine gi_ild hC dX1_reach_49 rfl ?_
              refine gi_ildn hC dX1_reach_51 rfl ?_
              refine gi_iast hC (gm_iR E hk 3 (by decide) (by decide)) (j := i) (by omega) rfl (by first | decide | omega) dX1_reach_52 ?_
              refine gi_aldn hC dX1_reach_53 rfl ?_
              refine gf_P_queue hC hk gw_99 dX1_reach_54 ?_
              refine gi_aldn hC dX1_reach_57 rfl ?_
              refine gf_P_queued hC hk gw_100 dX1_reach_58 ?_
              refine gi_ild hC dX1_reach_61 rfl ?_
              rw [show (gm_ar σ2 (gm_P kk + 3) i (oI frm)).1 = σ2.1 from rfl, s2]
              refine gi_iast hC (gm_iR E hk 2 (by decide) (by decide)) (j := qq.length) hq24 rfl (by first | decide | omega) dX1_reach_63 ?_
              refine gi_aldn hC dX1_reach_64 rfl ?_
              refine gi_dup hC dX1_reach_65 rfl ?_
              refine gf_P_queued hC hk gw_100 dX1_reach_66 ?_
              refine gi_const hC (v := 1) dX1_reach_69 (by decide) ?_
              refine gi_iadd hC dX1_reach_70 ?_
              rw [show (gm_ar (gm_ar σ2 (gm_P kk + 3) i (oI frm)) (gm_P kk + 2) qq.length (nI i)).1 = σ2.1 from rfl, s2, nI_1]
              refine pf_P_queued hC hk gw_100 dX1_reach_71 ?_
              refine gi_ildn hC dX1_reach_74 rfl ?_
              refine gi_const hC (v := 1) dX1_reach_75 (by decide) ?_
              refine gi_ild hC dX1_reach_76 rfl ?_
              refine gi_ishl hC dX1_reach_78 ?_
              refine gi_const hC (v := -1) dX1_reach_79 (by decide) ?_
              refine gi_ixor hC dX1_reach_80 ?_
              refine gi_iand hC dX1_reach_81 ?_
              refine gi_istn_3 hC dX1_reach_82 (by decide) ?_
              refine NX _ _ (qq ++ [i]) (va_up ff i frm) (gm_fr_tr hfr (gm_fr_tr (gm_fr_tr (gm_fr_ar (Or.inr rfl)) (gm_fr_ar (Or.inl rfl))) (gm_fr_sc ⟨rfl, Or.inr (Or.inl rfl)⟩))) ⟨?_, ?_, ?_, ?_, ?_⟩ (fun j b1 b2 => ?_) hw
              · rw [gm_sc_n _ _ (by omega)]; exact s1
              · rw [gm_sc_1]; simp
              · simp; omega
              · intro j e2 hj
                show e2 < 24 ∧ (gm_ar (gm_ar σ2 (gm_P kk + 3) i (oI frm)) (gm_P kk + 2) qq.length (nI i)).2 (gm_P kk + 2) j = nI e2
                by_cases hjl : j = qq.length
                · subst hjl
                  have : i = e2 := by simpa using hj
                  subst this
                  exact ⟨by omega, gm_ar_2 _ _ _ _⟩
                · have hj2 : qq[j]? = some e2 := by
                    have hlt := (List.getElem?_eq_some_iff.mp hj).1
                    simp at hlt
                    rwa [List.getElem?_append_left (by omega)] at hj
                  obtain ⟨c1, c2⟩ := s4 j e2 hj2
                  refine ⟨c1, ?_⟩
                  rw [gm_ar_n _ _ (fun z => hjl z.2), gm_ar_n _ _ (by omega)]
                  exact c2
              · intro e2 he2
                show (gm_ar (gm_ar σ2 (gm_P kk + 3) i (oI frm)) (gm_P kk + 2) qq.length (nI i)).2 (gm_P kk + 3) e2 = oI (va_up ff i frm e2) ∧ ∀ j, va_up ff i frm e2 = some j → j < 24
                rw [gm_ar_n _ _ (by omega)]
                by_cases hei : e2 = i
                · subst hei
                  rw [gm_ar_2, va_up_self]
                  exact ⟨rfl, hf⟩
                · rw [gm_ar_n _ _ (fun z => hei z.2), va_up_ne _ _ hei]
                  exact s5 e2 he2
              · rw [b_and, b_not _ b2, b_pow (by omega) b2, hy j (by omega) b2]
                simp [show j ≠ i by omega]
  obtain ⟨s1, s2, s3, s4, s5⟩ := id hs
  refine gi_aldn hC dX1_reach_0 rfl ?_
  refine gi_dup hC dX1_reach_1 rfl ?_
  refine gf_P_reached hC hk gw_98 dX1_reach_2 ?_
  refine gi_ildn hC dX1_reach_5 rfl ?_
  refine gi_ior hC dX1_reach_6 ?_
  refine pf_P_reached hC hk gw_98 dX1_reach_7 ?_
  refine gi_ildn hC dX1_reach_10 rfl ?_
  refine gi_istn_3 hC dX1_reach_11 (by decide) ?_
  refine gi_const hC (v := 0) dX1_reach_12 (by decide) ?_
  refine gi_ist_4 hC dX1_reach_13 (by decide) ?_
  refine L 24 0 _ x s.2.1 s.2.2 rfl (gm_fr_sc ⟨rfl, Or.inl rfl⟩) ⟨?_, ?_, s3, s4, s5⟩ (fun j _ b2 => hx j b2) hZ
  · rw [gm_sc_1]; exact bm_or s1 hx
  · rw [gm_sc_n _ _ (by omega)]; exact s2
