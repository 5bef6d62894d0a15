/-! MOVES: movesTo, settle, pack, isFirstOfClass -/
abbrev pfo : Type := pq × (Nat → Option Nat)
def lsb (S : Nat → Bool) : Nat → Nat → Option Nat
  | 0, _ => none
  | n + 1, e => if S e = true then some e else lsb S n (e + 1)
theorem lsb_some {S : Nat → Bool} {j : Nat} (hS : S j = true) (hl : ∀ i, i < j → S i = false) : ∀ n e, e ≤ j → j < e + n → lsb S n e = some j
  | 0, e, h1, h2 => by omega
  | n + 1, e, h1, h2 => by
    rw [lsb]
    by_cases he : e = j
    · subst he; rw [if_pos hS]
    · rw [if_neg (by rw [hl e (by omega)]; exact Bool.false_ne_true)]
      exact lsb_some hS hl n (e + 1) (by omega) (by omega)
theorem lsb_none {S : Nat → Bool} : ∀ n e, (∀ i, e ≤ i → i < e + n → S i = false) → lsb S n e = none
  | 0, _, _ => rfl
  | n + 1, e, h => by
    rw [lsb, if_neg (by rw [h e (Nat.le_refl e) (by omega)]; exact Bool.false_ne_true)]
    exact lsb_none n (e + 1) (fun i h1 h2 => h i (by omega) (by omega))
def mv1 (U V : Nat → Nat) (q : pq) (e f o : Nat) : pq := pq_put U V (pq_rem (pq_rem q o) e) e (some f)
def mvt (k : Nat) (U V : Nat → Nat) (ps : Nat → Bool) (fx : Nat → Bool) (z : pfo) (e f : Nat) : Bool × pfo := match wys z.1 (U e) (V e) f with
  | none => (true, (pq_put U V (pq_rem z.1 e) e (some f), z.2))
  | some S => match lsb (fun i => S i && !fx i) 24 0 with
    | none => (false, z)
    | some o => match fnd k U V ps (mv1 U V z.1 e f o) fx (U o) (V o) z.2 with
      | (some (lm, t), s) => (true, (tkin U V ps s.2.2 (mv1 U V z.1 e f o) lm t o, s.2.2))
      | (none, s) => (false, (pq_put U V (pq_put U V (pq_rem (mv1 U V z.1 e f o) e) e (z.1.1 e)) o (some f), s.2.2))
def st_in (k : Nat) (U V : Nat → Nat) (ps : Nat → Bool) (fx : Nat → Bool) (e : Nat) : Nat → Nat → pfo → pfo
  | 0, _, z => z
  | n + 1, f, z => match mvt k U V ps fx z e f with
    | (true, z2) => z2
    | (false, z2) => st_in k U V ps fx e n (f + 1) z2
def st_t (r : Option Nat) : Nat := match r with
  | none => 0
  | some t => t
def st_out (k : Nat) (U V : Nat → Nat) (ps : Nat → Bool) : Nat → Nat → (Nat → Bool) → pfo → pfo
  | 0, _, _, z => z
  | n + 1, e, fx, z => st_out k U V ps n (e + 1) (fun i => fx i || decide (i = e)) (st_in k U V ps (fun i => fx i || decide (i = e)) e (st_t (z.1.1 e)) 0 z)
def pk_lp (k : Nat) (U V : Nat → Nat) (ps : Nat → Bool) : Nat → Nat → pq × Nat × (Nat → Option Nat) → pq × Nat × (Nat → Option Nat)
  | 0, _, z => z
  | n + 1, e, z => if ps e = true then match fnd k U V ps z.1 (fun _ => false) (U e) (V e) z.2.2 with
      | (some (lm, t), s) => pk_lp k U V ps n (e + 1) (tkin U V ps s.2.2 z.1 lm t e, z.2.1 + 1, s.2.2)
      | (none, s) => pk_lp k U V ps n (e + 1) (z.1, z.2.1, s.2.2)
    else pk_lp k U V ps n (e + 1) z
def pq0 : pq := (fun _ => none, fun _ _ => none, fun _ _ => none)
def ifc (k : Nat) (U V : Nat → Nat) (ps : Nat → Bool) (q : pq) (fx : Nat → Bool) (v : Nat) : Nat → Nat → (Nat → Option Nat) → Bool × (Nat → Option Nat)
  | 0, _, fo => (true, fo)
  | n + 1, u, fo => match fnd k U V ps q fx u v fo with
    | (some _, s) => ifc k U V ps q fx v n (u + 1) s.2.2
    | (none, s) => (false, s.2.2)
def st_F (k x j : Nat) : Prop := x = gm_P k ∧ (j = 4 ∨ j = 5 ∨ j = 6 ∨ j = 8 ∨ j = 10 ∨ j = 11)
def mv_R (k y : Nat) : Prop := gm_P k < y ∧ y < gm_P k + 30
theorem mv_kp {σ σ2 : gm_S} {k : Nat} {F : Nat → Nat → Prop} (h : gm_kp σ σ2 (pk_R k)) : gm_fr σ σ2 F (mv_R k) := gm_fr_mono (gm_fr_kp (F := F) h) (fun _ _ z => z) (fun y hy => by unfold pk_R at hy; unfold mv_R; omega)
theorem mv_sr {σ σ2 : gm_S} {k : Nat} (h : gm_fr σ σ2 (sr_F k) (sr_R k)) : gm_fr σ σ2 (sr_F k) (mv_R k) := gm_fr_mono h (fun _ _ z => z) (fun y hy => by unfold sr_R at hy; unfold mv_R; omega)
theorem fo_kp {σ σ2 : gm_S} {k : Nat} {fol : Nat → Option Nat} (h : gm_kp σ σ2 (pk_R k)) (g : fo_rep σ k fol) : fo_rep σ2 k fol := fun e he => by rw [h.2 _ (fun z => by unfold pk_R at z; omega)]; exact g e he
theorem gL_mv {σ σ2 : gm_S} {U V : Nat → Nat} {k : Nat} {F : Nat → Nat → Prop} (h : gm_fr σ σ2 F (mv_R k)) (g : gL σ U V) : gL σ2 U V := gL_cong (h.2 2 (fun q => by unfold mv_R gm_P at q; omega)) (h.2 3 (fun q => by unfold mv_R gm_P at q; omega)) g
theorem fx_sr {σ σ2 : gm_S} {k : Nat} {R : Nat → Prop} {fx : Nat → Bool} (h : gm_fr σ σ2 (sr_F k) R) (g : bm (σ.1 (gm_P k) 5) fx) : bm (σ2.1 (gm_P k) 5) fx := by rw [h.1 _ 5 (fun z => by rcases z.2 with z | z | z | z <;> cases z)]; exact g
set_option maxHeartbeats 4000000 in
set_option maxRecDepth 100000 in
theorem c_X1_movesTo (l : Launch) (E : gm_E) {kk : Nat} (hk : kk < 7) (σ : gm_S) (U V : Nat → Nat) (hg : gL σ U V) (ps : Nat → Bool) (hps : bm (σ.1 1 2) ps) (q : pq) (hp : pk_rep σ kk q) (fx : Nat → Bool) (hfx : bm (σ.1 (gm_P kk) 5) fx) (fol : Nat → Option Nat) (hfo : fo_rep σ kk fol) (e : Nat) (he : e < 24) (f : Nat) (hi : f < kk) : gm_MI l E yX1_movesTo (.code yX1_movesTo cX1_movesTo 7 (some .boolean) :: gw_T) { frames := 3, cells := 0, slots := 0, locals := 78 } [.ref (E.2.2 (gm_P kk)), .ref (E.2.2 1), .int (nI e), .int (nI f)] σ (fun r σ2 => gm_fr σ σ2 (sr_F kk) (mv_R kk) ∧ pk_rep σ2 kk (mvt kk U V ps fx (q, fol) e f).2.1 ∧ fo_rep σ2 kk (mvt kk U V ps fx (q, fol) e f).2.2 ∧ r = if (mvt kk U V ps fx (q, fol) e f).1 = true then 1 else 0) := by
  refine gm_enterI RX1 (by decide +kernel) rfl rfl (Nat.le_of_ble_eq_true rfl) (gm_c1_ok rfl) ?_
  intro X hC hR
  show gm_G X E 7 0 [some (.ref (E.2.2 (gm_P kk))), some (.ref (E.2.2 1)), some (.int (nI e)), some (.int (nI f)), none, none, none] [] σ
  obtain ⟨Z, hZ⟩ : ∃ Z, Z = mvt kk U V ps fx (q, fol) e f := ⟨_, rfl⟩
  rw [← hZ] at hR
  obtain ⟨g1, g2, g3, g4⟩ := hg e he
  unfold mvt at hZ
  try dsimp only at hZ
  refine gi_aldn hC dX1_movesTo_0 rfl ?_
  refine gf_P_forests hC hk gw_95 dX1_movesTo_1 ?_
  refine gi_ildn hC dX1_movesTo_4 rfl ?_
  refine gi_aaldF hC hk hi rfl dX1_movesTo_5 ?_
  refine gi_aldn hC dX1_movesTo_6 rfl ?_
  refine gf_G_lesser hC gw_46 dX1_movesTo_7 ?_
  refine gi_ildn hC dX1_movesTo_10 rfl ?_
  refine gi_iald hC (gm_i2 E) he rfl (by first | decide | omega) dX1_movesTo_11 ?_
  refine gi_aldn hC dX1_movesTo_12 rfl ?_
  refine gf_G_greater hC gw_49 dX1_movesTo_13 ?_
  refine gi_ildn hC dX1_movesTo_16 rfl ?_
  refine gi_iald hC (gm_i3 E) he rfl (by first | decide | omega) dX1_movesTo_17 ?_
  rw [g1, g2]
  refine gk_VI (n := 2) hC (fun l => c_X2_way l E hk hi σ (q.2.1 f) (q.2.2 f) (hp.2 f hi) (U e) (V e) g3 g4) (gm_o2 E hk hi) rfl (gw_V gw_211 gw_212 gw_213 gw_27 gw_214) rfl ⟨rfl, rfl⟩ rfl (by decide +kernel) ⟨by decide, by decide⟩ (Nat.le_of_ble_eq_true rfl) dX1_movesTo_18 (fun r σ3 hq => ?_)
  obtain ⟨hq, rfl⟩ := hq
  cases hwy : wys q (U e) (V e) f with
  | none =>
    rw [hwy] at hZ
    try dsimp only at hZ
    rw [show wm (q.2.1 f) (q.2.2 f) (U e) (V e) = none from hwy] at hq
    have hq : r = -1 := hq
    subst hq
    refine gi_ist_4 hC dX1_movesTo_21 (by decide) ?_
    refine gi_ild hC dX1_movesTo_23 rfl ?_
    refine gi_const hC (v := -1) dX1_movesTo_25 (by decide) ?_
    refine gi_icmp_ne hC 43 dX1_movesTo_26 (by decide) (fun h2 => ?_) (fun h2 => ?_)
    · exact absurd rfl h2
    ·
      refine gi_aldn hC dX1_movesTo_29 rfl ?_
      refine gi_ildn hC dX1_movesTo_30 rfl ?_
      refine gk_VV (n := 1) hC (fun l => c_X1_remove l E hk σ3 q hp e he) (gm_o1 E hk) rfl (gw_V gw_223 gw_225 gw_5 gw_25 gw_226) rfl ⟨rfl, rfl⟩ rfl (by decide +kernel) ⟨by decide, by decide⟩ (Nat.le_of_ble_eq_true rfl) dX1_movesTo_31 (fun σ4 h4 => ?_)
      refine gi_aldn hC dX1_movesTo_34 rfl ?_
      refine gi_aldn hC dX1_movesTo_35 rfl ?_
      refine gi_ildn hC dX1_movesTo_36 rfl ?_
      refine gi_ildn hC dX1_movesTo_37 rfl ?_
      refine gk_VV (n := 3) hC (fun l => c_X1_put l E hk σ4 U V (gL_kp h4.1 hg) _ h4.2 e he (some f) (fun f2 hf2 => by cases hf2; exact hi)) (gm_o1 E hk) rfl (gw_V gw_231 gw_233 gw_6 gw_25 gw_234) rfl ⟨rfl, rfl⟩ rfl (by decide +kernel) ⟨by decide, by decide⟩ (Nat.le_of_ble_eq_true rfl) dX1_movesTo_38 (fun σ5 h5 => ?_)
      refine gi_const hC (v := 1) dX1_movesTo_41 (by decide) ?_
      exact hR _ _ _ _ (by decide +kernel) (by rw [hZ]; exact ⟨mv_kp (gm_kp_tr h4.1 h5.1), h5.2, fo_kp (gm_kp_tr h4.1 h5.1) hfo, rfl⟩) dX1_movesTo_42
  | some S =>
    rw [hwy] at hZ
    try dsimp only at hZ
    rw [show wm (q.2.1 f) (q.2.2 f) (U e) (V e) = some S from hwy] at hq
    have hq : bm r S := hq
    have hr1 : r ≠ -1 := wm_ne hq (wm_lt g3 g4 (fun j hj => ⟨((hp.2 f hi) j hj).2.1, ((hp.2 f hi) j hj).2.2.2⟩) hwy)
    refine gi_ist_4 hC dX1_movesTo_21 (by decide) ?_
    refine gi_ild hC dX1_movesTo_23 rfl ?_
    refine gi_const hC (v := -1) dX1_movesTo_25 (by decide) ?_
    refine gi_icmp_ne hC 43 dX1_movesTo_26 (by decide) (fun h2 => ?_) (fun h2 => ?_)
    ·
      refine gi_ild hC dX1_movesTo_43 rfl ?_
      refine gi_aldn hC dX1_movesTo_45 rfl ?_
      refine gf_P_fixed hC hk gw_97 dX1_movesTo_46 ?_
      refine gi_const hC (v := -1) dX1_movesTo_49 (by decide) ?_
      refine gi_ixor hC dX1_movesTo_50 ?_
      refine gi_iand hC dX1_movesTo_51 ?_
      refine gk_SI (n := 1) hC (fun l => c_X1_leastOf l E σ3 _) (gw_S gw_255 gw_256 gw_25 gw_257) rfl ⟨rfl, rfl⟩ rfl (by decide +kernel) ⟨by decide, by decide⟩ (Nat.le_of_ble_eq_true rfl) dX1_movesTo_52 (fun r2 σ4 hl => ?_)
      obtain ⟨rfl, hl⟩ := hl
      have hb2 := bm_and hq (bm_not hfx)
      rcases hl with ⟨o, ho, rfl, ho1, ho2⟩ | ⟨rfl, hl⟩
      ·
        have hls : lsb (fun i => S i && !fx i) 24 0 = some o := lsb_some ((hb2 o (by omega)).symm.trans ho1) (fun i hi2 => (hb2 i (by omega)).symm.trans (ho2 i hi2)) 24 0 (Nat.zero_le _) (by omega)
        rw [hls] at hZ
        try dsimp only at hZ
        obtain ⟨o1, o2, o3, o4⟩ := hg o ho
        obtain ⟨p1, p2⟩ := hp.1 e he
        refine gi_ist_5 hC dX1_movesTo_55 (by decide) ?_
        refine gi_ild hC dX1_movesTo_57 rfl ?_
        refine gi_const hC (v := -1) dX1_movesTo_59 (by decide) ?_
        refine gi_icmp_ne hC 65 dX1_movesTo_60 (by decide) (fun h3 => ?_) (fun h3 => ?_)
        ·
          refine gi_aldn hC dX1_movesTo_65 rfl ?_
          refine gf_P_place hC hk gw_89 dX1_movesTo_66 ?_
          refine gi_ildn hC dX1_movesTo_69 rfl ?_
          refine gi_iald hC (gm_iR E hk 1 (by decide) (by decide)) he rfl (by first | decide | omega) dX1_movesTo_70 ?_
          rw [p1]
          refine gi_ist_6 hC dX1_movesTo_71 (by decide) ?_
          refine gi_aldn hC dX1_movesTo_73 rfl ?_
          refine gi_ild hC dX1_movesTo_74 rfl ?_
          refine gk_VV (n := 1) hC (fun l => c_X1_remove l E hk σ4 q hp o ho) (gm_o1 E hk) rfl (gw_V gw_223 gw_225 gw_5 gw_25 gw_226) rfl ⟨rfl, rfl⟩ rfl (by decide +kernel) ⟨by decide, by decide⟩ (Nat.le_of_ble_eq_true rfl) dX1_movesTo_76 (fun σ5 h5 => ?_)
          refine gi_aldn hC dX1_movesTo_79 rfl ?_
          refine gi_ildn hC dX1_movesTo_80 rfl ?_
          refine gk_VV (n := 1) hC (fun l => c_X1_remove l E hk σ5 _ h5.2 e he) (gm_o1 E hk) rfl (gw_V gw_223 gw_225 gw_5 gw_25 gw_226) rfl ⟨rfl, rfl⟩ rfl (by decide +kernel) ⟨by decide, by decide⟩ (Nat.le_of_ble_eq_true rfl) dX1_movesTo_81 (fun σ6 h6 => ?_)
          have k6 := gm_kp_tr h5.1 h6.1
          refine gi_aldn hC dX1_movesTo_84 rfl ?_
          refine gi_aldn hC dX1_movesTo_85 rfl ?_
          refine gi_ildn hC dX1_movesTo_86 rfl ?_
          refine gi_ildn hC dX1_movesTo_87 rfl ?_
          refine gk_VV (n := 3) hC (fun l => c_X1_put l E hk σ6 U V (gL_kp k6 hg) _ h6.2 e he (some f) (fun f2 hf2 => by cases hf2; exact hi)) (gm_o1 E hk) rfl (gw_V gw_231 gw_233 gw_6 gw_25 gw_234) rfl ⟨rfl, rfl⟩ rfl (by decide +kernel) ⟨by decide, by decide⟩ (Nat.le_of_ble_eq_true rfl) dX1_movesTo_88 (fun σ7 h7 => ?_)
          have k7 := gm_kp_tr k6 h7.1
          have hg7 := gL_kp k7 hg
          obtain ⟨o1, o2, o3, o4⟩ := hg7 o ho
          refine gi_aldn hC dX1_movesTo_91 rfl ?_
          refine gi_aldn hC dX1_movesTo_92 rfl ?_
          refine gi_aldn hC dX1_movesTo_93 rfl ?_
          refine gf_G_lesser hC gw_46 dX1_movesTo_94 ?_
          refine gi_ild hC dX1_movesTo_97 rfl ?_
          refine gi_iald hC (gm_i2 E) ho rfl (by first | decide | omega) dX1_movesTo_99 ?_
          refine gi_aldn hC dX1_movesTo_100 rfl ?_
          refine gf_G_greater hC gw_49 dX1_movesTo_101 ?_
          refine gi_ild hC dX1_movesTo_104 rfl ?_
          refine gi_iald hC (gm_i3 E) ho rfl (by first | decide | omega) dX1_movesTo_106 ?_
          rw [o1, o2]
          refine gk_VI (n := 3) hC (fun l => c_X1_findRoom l E hk σ7 U V hg7 ps (ps_kp k7 hps) _ h7.2 fx (by rw [k7.1]; exact hfx) fol (fo_kp k7 hfo) (U o) (V o) o3 o4) (gm_o1 E hk) rfl (gw_V gw_203 gw_204 gw_205 gw_25 gw_206) rfl ⟨rfl, rfl⟩ rfl (by decide +kernel) ⟨by decide, by decide⟩ (Nat.le_of_ble_eq_true rfl) dX1_movesTo_107 (fun r3 σ8 h8 => ?_)
          obtain ⟨h81, h82⟩ := h8
          have hmv : mv1 U V q e f o = pq_put U V (pq_rem (pq_rem q o) e) e (some f) := rfl
          rw [← hmv] at h82 h7
          have hp8 := pk_sr hk h81 h7.2
          have hg8 := gL_sr h81 hg7
          generalize fnd kk U V ps (mv1 U V q e f o) fx (U o) (V o) fol = z at hZ h82
          obtain ⟨z1, z2⟩ := z
          cases z1 with
          | some w =>
            obtain ⟨lm, t⟩ := w
            try dsimp only at hZ
            obtain ⟨h83, rfl, h84, h85, h86, h87⟩ := h82
            refine gi_if_eq hC 122 dX1_movesTo_110 (by decide) (fun h9 => ?_) (fun h9 => ?_)
            · exact absurd h9 (by decide)
            ·
              refine gi_aldn hC dX1_movesTo_113 rfl ?_
              refine gi_aldn hC dX1_movesTo_114 rfl ?_
              refine gi_ild hC dX1_movesTo_115 rfl ?_
              refine gk_VV (n := 2) hC (fun l => c_X1_takeIn l E hk σ8 U V hg8 ps (ps_sr h81 (ps_kp k7 hps)) _ hp8 z2.2.2 h83.2.2.2.2 lm h86 h85 t h84 h87 o ho) (gm_o1 E hk) rfl (gw_V gw_219 gw_221 gw_4 gw_25 gw_222) rfl ⟨rfl, rfl⟩ rfl (by decide +kernel) ⟨by decide, by decide⟩ (Nat.le_of_ble_eq_true rfl) dX1_movesTo_117 (fun σ9 h9 => ?_)
              refine gi_const hC (v := 1) dX1_movesTo_120 (by decide) ?_
              exact hR _ _ _ _ (by decide +kernel) (by rw [hZ]; exact ⟨gm_fr_tr (mv_kp k7) (gm_fr_tr (mv_sr h81) (mv_kp h9.1)), h9.2, fo_kp h9.1 h83.2.2.2.2, rfl⟩) dX1_movesTo_121
          | none =>
            try dsimp only at hZ
            obtain ⟨h83, h84⟩ := h82
            have h84 : r3 = 0 := h84
            subst h84
            refine gi_if_eq hC 122 dX1_movesTo_110 (by decide) (fun h9 => ?_) (fun h9 => ?_)
            ·
              refine gi_aldn hC dX1_movesTo_122 rfl ?_
              refine gi_ildn hC dX1_movesTo_123 rfl ?_
              refine gk_VV (n := 1) hC (fun l => c_X1_remove l E hk σ8 _ hp8 e he) (gm_o1 E hk) rfl (gw_V gw_223 gw_225 gw_5 gw_25 gw_226) rfl ⟨rfl, rfl⟩ rfl (by decide +kernel) ⟨by decide, by decide⟩ (Nat.le_of_ble_eq_true rfl) dX1_movesTo_124 (fun σ9 h9 => ?_)
              refine gi_aldn hC dX1_movesTo_127 rfl ?_
              refine gi_aldn hC dX1_movesTo_128 rfl ?_
              refine gi_ildn hC dX1_movesTo_129 rfl ?_
              refine gi_ild hC dX1_movesTo_130 rfl ?_
              refine gk_VV (n := 3) hC (fun l => c_X1_put l E hk σ9 U V (gL_kp h9.1 hg8) _ h9.2 e he (q.1 e) p2) (gm_o1 E hk) rfl (gw_V gw_231 gw_233 gw_6 gw_25 gw_234) rfl ⟨rfl, rfl⟩ rfl (by decide +kernel) ⟨by decide, by decide⟩ (Nat.le_of_ble_eq_true rfl) dX1_movesTo_132 (fun σ10 h10 => ?_)
              have k10 := gm_kp_tr h9.1 h10.1
              refine gi_aldn hC dX1_movesTo_135 rfl ?_
              refine gi_aldn hC dX1_movesTo_136 rfl ?_
              refine gi_ild hC dX1_movesTo_137 rfl ?_
              refine gi_ildn hC dX1_movesTo_139 rfl ?_
              refine gk_VV (n := 3) hC (fun l => c_X1_put l E hk σ10 U V (gL_kp k10 hg8) _ h10.2 o ho (some f) (fun f2 hf2 => by cases hf2; exact hi)) (gm_o1 E hk) rfl (gw_V gw_231 gw_233 gw_6 gw_25 gw_234) rfl ⟨rfl, rfl⟩ rfl (by decide +kernel) ⟨by decide, by decide⟩ (Nat.le_of_ble_eq_true rfl) dX1_movesTo_140 (fun σ11 h11 => ?_)
              have k11 := gm_kp_tr k10 h11.1
              refine gi_const hC (v := 0) dX1_movesTo_143 (by decide) ?_
              exact hR _ _ _ _ (by decide +kernel) (by rw [hZ]; exact ⟨gm_fr_tr (mv_kp k7) (gm_fr_tr (mv_sr h81) (mv_kp k11)), h11.2, fo_kp k11 h83.2.2.2.2, rfl⟩) dX1_movesTo_144
            · exact absurd rfl h9
        · exact absurd h3 (fun z => absurd (z ▸ (show (-1 : Int32) < 0 by decide)) (nI_pos (n := o) (by omega)))
      ·
        have hls : lsb (fun i => S i && !fx i) 24 0 = none := lsb_none 24 0 (fun i _ hi2 => (hb2 i (by omega)).symm.trans (hl i (by omega)))
        rw [hls] at hZ
        try dsimp only at hZ
        refine gi_ist_5 hC dX1_movesTo_55 (by decide) ?_
        refine gi_ild hC dX1_movesTo_57 rfl ?_
        refine gi_const hC (v := -1) dX1_movesTo_59 (by decide) ?_
        refine gi_icmp_ne hC 65 dX1_movesTo_60 (by decide) (fun h3 => ?_) (fun h3 => ?_)
        · exact absurd rfl h3
        ·
          refine gi_const hC (v := 0) dX1_movesTo_63 (by decide) ?_
          exact hR _ _ _ _ (by decide +kernel) (by rw [hZ]; exact ⟨gm_fr_rf, hp, hfo, rfl⟩) dX1_movesTo_64
    · exact absurd h2 hr1
set_option maxHeartbeats 4000000 in
set_option maxRecDepth 100000 in
theorem c_X1_isFirstOfClass (l : Launch) (E : gm_E) {kk : Nat} (hk : kk < 7) (σ : gm_S) (U V : Nat → Nat) (hg : gL σ U V) (ps : Nat → Bool) (hps : bm (σ.1 1 2) ps) (q : pq) (hp : pk_rep σ kk q) (fx : Nat → Bool) (hfx : bm (σ.1 (gm_P kk) 5) fx) (fol : Nat → Option Nat) (hfo : fo_rep σ kk fol) (v : Nat) (hv : v < 10) : gm_MI l E yX1_isFirstOfClass (.code yX1_isFirstOfClass cX1_isFirstOfClass 4 (some .boolean) :: gw_T) { frames := 3, cells := 0, slots := 0, locals := 77 } [.ref (E.2.2 (gm_P kk)), .ref (E.2.2 1), .int (nI v)] σ (fun r σ2 => gm_fr σ σ2 (sr_F kk) (sr_R kk) ∧ fo_rep σ2 kk (ifc kk U V ps q fx v v 0 fol).2 ∧ r = if (ifc kk U V ps q fx v v 0 fol).1 = true then 1 else 0) := by
  refine gm_enterI RX1 (by decide +kernel) rfl rfl (Nat.le_of_ble_eq_true rfl) (gm_c1_ok rfl) ?_
  intro X hC hR
  show gm_G X E 4 0 [some (.ref (E.2.2 (gm_P kk))), some (.ref (E.2.2 1)), some (.int (nI v)), none] [] σ
  obtain ⟨Z, hZ⟩ : ∃ Z, Z = ifc kk U V ps q fx v v 0 fol := ⟨_, rfl⟩
  rw [← hZ] at hR
  have L : ∀ n i (σ2 : gm_S) (fo : Nat → Option Nat), i + n = v → gm_fr σ σ2 (sr_F kk) (sr_R kk) → fo_rep σ2 kk fo → Z = ifc kk U V ps q fx v n i fo → gm_G X E 4 2 [some (.ref (E.2.2 (gm_P kk))), some (.ref (E.2.2 1)), some (.int (nI v)), some (.int (nI i))] [] σ2 := by
    intro n
    induction n with
    | zero =>
      intro i σ2 fo hi0 hfr hf2 hw
      have hi0 : i = v := by omega
      subst hi0
      rw [ifc] at hw
      refine gi_ildn hC dX1_isFirstOfClass_2 rfl ?_
      refine gi_ildn hC dX1_isFirstOfClass_3 rfl ?_
      refine gi_icmp_ge hC 25 dX1_isFirstOfClass_4 (by decide) (fun h1 => ?_) (fun h1 => ?_)
      ·
        refine gi_const hC (v := 1) dX1_isFirstOfClass_25 (by decide) ?_
        exact hR _ _ _ _ (by decide +kernel) (by rw [hw]; exact ⟨hfr, hf2, rfl⟩) dX1_isFirstOfClass_26
      · exact absurd (Int32.le_refl _) h1
    | succ n ih =>
      intro i σ2 fo hi0 hfr hf2 hw
      refine gi_ildn hC dX1_isFirstOfClass_2 rfl ?_
      refine gi_ildn hC dX1_isFirstOfClass_3 rfl ?_
      refine gi_icmp_ge hC 25 dX1_isFirstOfClass_4 (by decide) (fun h1 => ?_) (fun h1 => ?_)
      · exact absurd h1 (nI_ge (a := i) (b := v) (by omega) (by omega))
      ·
        refine gi_aldn hC dX1_isFirstOfClass_7 rfl ?_
        refine gi_aldn hC dX1_isFirstOfClass_8 rfl ?_
        refine gi_ildn hC dX1_isFirstOfClass_9 rfl ?_
        refine gi_ildn hC dX1_isFirstOfClass_10 rfl ?_
        refine gk_VI (n := 3) hC (fun l => c_X1_findRoom l E hk σ2 U V (gL_sr hfr hg) ps (ps_sr hfr hps) q (pk_sr hk hfr hp) fx (fx_sr hfr hfx) fo hf2 i v (by omega) hv) (gm_o1 E hk) rfl (gw_V gw_203 gw_204 gw_205 gw_25 gw_206) rfl ⟨rfl, rfl⟩ rfl (by decide +kernel) ⟨by decide, by decide⟩ (Nat.le_of_ble_eq_true rfl) dX1_isFirstOfClass_11 (fun r σ3 h9 => ?_)
        obtain ⟨h91, h92⟩ := h9
        rw [ifc] at hw
        generalize fnd kk U V ps q fx i v fo = z at hw h92
        obtain ⟨z1, z2⟩ := z
        cases z1 with
        | some w =>
          try dsimp only at hw
          obtain ⟨lm, t⟩ := w
          obtain ⟨h93, rfl, -⟩ := h92
          refine gi_if_ne hC 19 dX1_isFirstOfClass_14 (by decide) (fun h3 => ?_) (fun h3 => ?_)
          ·
            refine gi_iinc_3 hC dX1_isFirstOfClass_19 (nI_1 i) (by decide) ?_
            refine gi_goto hC 2 dX1_isFirstOfClass_22 (by decide) ?_
            exact ih (i + 1) σ3 _ (by omega) (gm_fr_tr hfr h91) h93.2.2.2.2 hw
          · exact absurd h3 (by decide)
        | none =>
          try dsimp only at hw
          obtain ⟨h93, h94⟩ := h92
          have h94 : r = 0 := h94
          subst h94
          refine gi_if_ne hC 19 dX1_isFirstOfClass_14 (by decide) (fun h3 => ?_) (fun h3 => ?_)
          · exact absurd rfl h3
          ·
            refine gi_const hC (v := 0) dX1_isFirstOfClass_17 (by decide) ?_
            exact hR _ _ _ _ (by decide +kernel) (by rw [hw]; exact ⟨gm_fr_tr hfr h91, h93.2.2.2.2, rfl⟩) dX1_isFirstOfClass_18
  refine gi_const hC (v := 0) dX1_isFirstOfClass_0 (by decide) ?_
  refine gi_istn_3 hC dX1_isFirstOfClass_1 (by decide) ?_
  exact L v 0 σ fol (by omega) gm_fr_rf hfo hZ
set_option maxHeartbeats 4000000 in
set_option maxRecDepth 100000 in
theorem c_X1_settle (l : Launch) (E : gm_E) {kk : Nat} (hk : kk < 7) (σ : gm_S) (U V : Nat → Nat) (hg : gL σ U V) (ps : Nat → Bool) (hps : bm (σ.1 1 2) ps) (q : pq) (hp : pk_rep σ kk q) (hfx : σ.1 (gm_P kk) 5 = 0) (hst : σ.1 (gm_P kk) 4 = 0 ∨ σ.1 (gm_P kk) 4 = 1) (fol : Nat → Option Nat) (hfo : fo_rep σ kk fol) : gm_MV l E yX1_settle (.code yX1_settle cX1_settle 5 none :: gw_T) { frames := 4, cells := 0, slots := 0, locals := 104 } [.ref (E.2.2 (gm_P kk)), .ref (E.2.2 1)] σ (fun σ2 => gm_fr σ σ2 (st_F kk) (mv_R kk) ∧ pk_rep σ2 kk (if σ.1 (gm_P kk) 4 = 1 then (q, fol) else st_out kk U V ps 24 0 (fun _ => false) (q, fol)).1 ∧ fo_rep σ2 kk (if σ.1 (gm_P kk) 4 = 1 then (q, fol) else st_out kk U V ps 24 0 (fun _ => false) (q, fol)).2 ∧ σ2.1 (gm_P kk) 5 = 0 ∧ σ2.1 (gm_P kk) 4 = 1) := by
  refine gm_enterV RX1 (by decide +kernel) rfl rfl (Nat.le_of_ble_eq_true rfl) (gm_c1_ok rfl) ?_
  intro X hC hR
  show gm_G X E 5 0 [some (.ref (E.2.2 (gm_P kk))), some (.ref (E.2.2 1)), none, none, none] [] σ
  obtain ⟨Z, hZ⟩ : ∃ Z, Z = st_out kk U V ps 24 0 (fun _ => false) (q, fol) := ⟨_, rfl⟩
  rw [← hZ] at hR
  have LI : ∀ n i e fx (z : pfo) (σ2 : gm_S) (t : Option Nat), e < 24 → i + n = st_t t → (∀ f, t = some f → f < kk) → gm_fr σ σ2 (st_F kk) (mv_R kk) → bm (σ2.1 (gm_P kk) 5) fx → pk_rep σ2 kk z.1 → fo_rep σ2 kk z.2 → (∀ (σ3 : gm_S) (z3 : pfo) (w3 w4 : Option Value), gm_fr σ σ3 (st_F kk) (mv_R kk) → bm (σ3.1 (gm_P kk) 5) fx → pk_rep σ3 kk z3.1 → fo_rep σ3 kk z3.2 → st_in kk U V ps fx e n i z = z3 → gm_G X E 5 74 [some (.ref (E.2.2 (gm_P kk))), some (.ref (E.2.2 1)), some (.int (nI e)), w3, w4] [] σ3) → gm_G X E 5 38 [some (.ref (E.2.2 (gm_P kk))), some (.ref (E.2.2 1)), some (.int (nI e)), some (.int (oI t)), some (.int (nI i))] [] σ2 := by
    intro n
    induction n with
    | zero =>
      intro i e fx z σ2 t he hi0 ht hfr hfx2 hp2 hf2 KK
      refine gi_ild hC dX1_settle_38 rfl ?_
      refine gi_ildn hC dX1_settle_40 rfl ?_
      refine gi_icmp_ge hC 74 dX1_settle_41 (by decide) (fun h1 => ?_) (fun h1 => ?_)
      · exact KK σ2 z _ _ hfr hfx2 hp2 hf2 rfl
      ·
        refine absurd ?_ h1
        cases t with
        | none => exact (by rw [show i = 0 from hi0]; decide)
        | some t => rw [show i = t from hi0]; exact Int32.le_refl _
    | succ n ih =>
      intro i e fx z σ2 t he hi0 ht hfr hfx2 hp2 hf2 KK
      obtain ⟨t, rfl⟩ : ∃ t2, t = some t2 := by
        cases t with
        | none => exact absurd hi0 (by show ¬ i + (n + 1) = 0; omega)
        | some t => exact ⟨t, rfl⟩
      have hi0 : i + (n + 1) = t := hi0
      have htk := ht t rfl
      have hi : i < kk := by omega
      refine gi_ild hC dX1_settle_38 rfl ?_
      refine gi_ildn hC dX1_settle_40 rfl ?_
      refine gi_icmp_ge hC 74 dX1_settle_41 (by decide) (fun h1 => ?_) (fun h1 => ?_)
      · exact absurd h1 (nI_ge (a := i) (b := t) (by omega) (by omega))
      ·
        refine gi_ild hC dX1_settle_44 rfl ?_
        refine gi_aldn hC dX1_settle_46 rfl ?_
        refine gf_P_forests hC hk gw_95 dX1_settle_47 ?_
        refine gi_alenF hC hk dX1_settle_50 ?_
        refine gi_icmp_ge hC 74 dX1_settle_51 (by decide) (fun h2 => ?_) (fun h2 => ?_)
        · exact absurd h2 (nI_ge (a := i) (b := kk) hi (by omega))
        ·
          refine gi_aldn hC dX1_settle_54 rfl ?_
          refine gi_aldn hC dX1_settle_55 rfl ?_
          refine gi_ildn hC dX1_settle_56 rfl ?_
          refine gi_ild hC dX1_settle_57 rfl ?_
          refine gk_VI (n := 3) hC (fun l => c_X1_movesTo l E hk σ2 U V (gL_mv hfr hg) ps (ps_fr (fun _ _ y => y.1) hfr hps) z.1 hp2 fx hfx2 z.2 hf2 e he i hi) (gm_o1 E hk) rfl (gw_V gw_251 gw_253 gw_7 gw_25 gw_254) rfl ⟨rfl, rfl⟩ rfl (by decide +kernel) ⟨by decide, by decide⟩ (Nat.le_of_ble_eq_true rfl) dX1_settle_59 (fun r σ3 h9 => ?_)
          obtain ⟨h91, h92, h93, h94⟩ := h9
          have hfr3 := gm_fr_tr hfr (gm_fr_mono h91 (fun x j hx => ⟨hx.1, by rcases hx.2 with z | z | z | z <;> omega⟩) (fun _ z => z))
          have hfx3 := fx_sr h91 hfx2
          rw [show ((z.1, z.2) : pfo) = z from rfl] at h92 h93 h94
          cases hm : (mvt kk U V ps fx z e i).1 with
          | true =>
            rw [hm, if_pos rfl] at h94
            subst h94
            refine gi_if_eq hC 68 dX1_settle_62 (by decide) (fun h3 => ?_) (fun h3 => ?_)
            · exact absurd h3 (by decide)
            ·
              refine gi_goto hC 74 dX1_settle_65 (by decide) ?_
              refine KK σ3 _ _ _ hfr3 hfx3 h92 h93 ?_
              rw [st_in]
              rw [show mvt kk U V ps fx z e i = (true, (mvt kk U V ps fx z e i).2) from Prod.ext hm rfl]
          | false =>
            rw [hm, if_neg Bool.false_ne_true] at h94
            subst h94
            refine gi_if_eq hC 68 dX1_settle_62 (by decide) (fun h3 => ?_) (fun h3 => ?_)
            ·
              refine gi_iinc_4 hC dX1_settle_68 (nI_1 i) (by decide) ?_
              refine gi_goto hC 38 dX1_settle_71 (by decide) ?_
              refine ih (i + 1) e fx (mvt kk U V ps fx z e i).2 σ3 (some t) he (show i + 1 + n = t by omega) ht hfr3 hfx3 h92 h93 (fun σ4 z4 w3 w4 b1 b2 b3 b4 b5 => KK σ4 z4 w3 w4 b1 b2 b3 b4 ?_)
              rw [st_in]
              rw [show mvt kk U V ps fx z e i = (false, (mvt kk U V ps fx z e i).2) from Prod.ext hm rfl]
              exact b5
            · exact absurd rfl h3
  have LO : ∀ n i fx (z : pfo) (σ2 : gm_S) (w3 w4 : Option Value), i + n = 24 → gm_fr σ σ2 (st_F kk) (mv_R kk) → bm (σ2.1 (gm_P kk) 5) fx → pk_rep σ2 kk z.1 → fo_rep σ2 kk z.2 → σ.1 (gm_P kk) 4 ≠ 1 → Z = st_out kk U V ps n i fx z → gm_G X E 5 10 [some (.ref (E.2.2 (gm_P kk))), some (.ref (E.2.2 1)), some (.int (nI i)), w3, w4] [] σ2 := by
    intro n
    induction n with
    | zero =>
      intro i fx z σ2 w3 w4 hi0 hfr hfx2 hp2 hf2 hs4 hw
      have hi0 : i = 24 := by omega
      subst hi0
      rw [st_out] at hw
      subst hw
      refine gi_ildn hC dX1_settle_10 rfl ?_
      refine gi_bipush hC (v := 24) dX1_settle_11 (by decide) ?_
      refine gi_icmp_ge hC 80 dX1_settle_13 (by decide) (fun h1 => ?_) (fun h1 => ?_)
      ·
        refine gi_aldn hC dX1_settle_80 rfl ?_
        refine gi_const hC (v := 0) dX1_settle_81 (by decide) ?_
        refine pf_P_fixed hC hk gw_97 dX1_settle_82 ?_
        refine gi_aldn hC dX1_settle_85 rfl ?_
        refine gi_const hC (v := 1) dX1_settle_86 (by decide) ?_
        refine pf_P_isSettled hC hk (by decide) gw_96 dX1_settle_87 ?_
        refine hR _ _ _ ?_ dX1_settle_90
        rw [if_neg hs4]
        exact ⟨gm_fr_tr hfr (gm_fr_tr (gm_fr_sc ⟨rfl, by omega⟩) (gm_fr_sc ⟨rfl, by omega⟩)), pk_fr hk (fun _ _ => rfl) hp2, hf2, by rw [gm_sc_n _ _ (by omega), gm_sc_1], gm_sc_1 _ _ _ _⟩
      · exact absurd (Int32.le_refl _) h1
    | succ n ih =>
      intro i fx z σ2 w3 w4 hi0 hfr hfx2 hp2 hf2 hs4 hw
      rw [st_out] at hw
      refine gi_ildn hC dX1_settle_10 rfl ?_
      refine gi_bipush hC (v := 24) dX1_settle_11 (by decide) ?_
      refine gi_icmp_ge hC 80 dX1_settle_13 (by decide) (fun h1 => ?_) (fun h1 => ?_)
      · exact absurd h1 (nI_ge (a := i) (b := 24) (by omega) (by omega))
      ·
        refine gi_aldn hC dX1_settle_16 rfl ?_
        refine gi_dup hC dX1_settle_17 rfl ?_
        refine gf_P_fixed hC hk gw_97 dX1_settle_18 ?_
        refine gi_const hC (v := 1) dX1_settle_21 (by decide) ?_
        refine gi_ildn hC dX1_settle_22 rfl ?_
        refine gi_ishl hC dX1_settle_23 ?_
        refine gi_ior hC dX1_settle_24 ?_
        refine pf_P_fixed hC hk gw_97 dX1_settle_25 ?_
        have hfr3 : gm_fr σ (gm_sc σ2 (gm_P kk) 5 (σ2.1 (gm_P kk) 5 ||| 1 <<< (nI i &&& 31))) (st_F kk) (mv_R kk) := gm_fr_tr hfr (gm_fr_sc ⟨rfl, by omega⟩)
        have hfx3 : bm ((gm_sc σ2 (gm_P kk) 5 (σ2.1 (gm_P kk) 5 ||| 1 <<< (nI i &&& 31))).1 (gm_P kk) 5) (fun j => fx j || decide (j = i)) := by rw [gm_sc_1]; exact bm_or hfx2 (bm_pow (by omega))
        have hp3 : pk_rep (gm_sc σ2 (gm_P kk) 5 (σ2.1 (gm_P kk) 5 ||| 1 <<< (nI i &&& 31))) kk z.1 := pk_fr hk (fun _ _ => rfl) hp2
        have hf3 : fo_rep (gm_sc σ2 (gm_P kk) 5 (σ2.1 (gm_P kk) 5 ||| 1 <<< (nI i &&& 31))) kk z.2 := hf2
        generalize gm_sc σ2 (gm_P kk) 5 (σ2.1 (gm_P kk) 5 ||| 1 <<< (nI i &&& 31)) = σ3 at hfr3 hfx3 hp3 hf3 ⊢
        obtain ⟨p1, p2⟩ := hp3.1 i (by omega)
        refine gi_aldn hC dX1_settle_28 rfl ?_
        refine gf_P_place hC hk gw_89 dX1_settle_29 ?_
        refine gi_ildn hC dX1_settle_32 rfl ?_
        refine gi_iald hC (gm_iR E hk 1 (by decide) (by decide)) (j := i) (by omega) rfl (by first | decide | omega) dX1_settle_33 ?_
        rw [p1]
        refine gi_istn_3 hC dX1_settle_34 (by decide) ?_
        refine gi_const hC (v := 0) dX1_settle_35 (by decide) ?_
        refine gi_ist_4 hC dX1_settle_36 (by decide) ?_
        refine LI (st_t (z.1.1 i)) 0 i _ z σ3 (z.1.1 i) (by omega) (Nat.zero_add _) p2 hfr3 hfx3 hp3 hf3 (fun σ4 z4 w5 w6 b1 b2 b3 b4 b5 => ?_)
        refine gi_iinc_2 hC dX1_settle_74 (nI_1 i) (by decide) ?_
        refine gi_goto hC 10 dX1_settle_77 (by decide) ?_
        exact ih (i + 1) _ z4 σ4 _ _ (by omega) b1 b2 b3 b4 hs4 (by rw [hw, b5])
  refine gi_aldn hC dX1_settle_0 rfl ?_
  refine gf_P_isSettled hC hk gw_96 dX1_settle_1 ?_
  refine gi_if_eq hC 8 dX1_settle_4 (by decide) (fun h1 => ?_) (fun h1 => ?_)
  ·
    refine gi_const hC (v := 0) dX1_settle_8 (by decide) ?_
    refine gi_istn_2 hC dX1_settle_9 (by decide) ?_
    exact LO 24 0 (fun _ => false) (q, fol) σ _ _ rfl gm_fr_rf (by rw [hfx]; exact bm_0) hp hfo (by rw [h1]; decide) hZ
  · have h41 : σ.1 (gm_P kk) 4 = 1 := hst.elim (fun z => absurd z h1) id
    exact hR _ _ _ (by rw [if_pos h41]; exact ⟨gm_fr_rf, hp, hfo, hfx, h41⟩) dX1_settle_7
