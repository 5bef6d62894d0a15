/-! THE REFERENCE: shift, place -/
theorem nd_len : ∀ (L : List Nat) (n : Nat), L.Nodup → (∀ x, x ∈ L → x < n) → gc_n (fun x => x ∈ L) n = L.length
  | [], n, _, _ => gc_none n (fun v _ h => by cases h)
  | y :: L, n, hn, hx => by
    obtain ⟨n1, n2⟩ := List.nodup_cons.mp hn
    have ih := nd_len L n n2 (fun x h => hx x (List.mem_cons_of_mem _ h))
    rw [List.length_cons, ← ih]
    exact gc_out (w := y) List.mem_cons_self n1 (hx y List.mem_cons_self) (fun v _ hv => ⟨fun z => (List.mem_cons.mp z).elim (fun q => absurd q hv) id, fun z => List.mem_cons_of_mem _ z⟩)
theorem nd_le {L : List Nat} {n : Nat} (hn : L.Nodup) (hx : ∀ x, x ∈ L → x < n) : L.length ≤ n := by
  rw [← nd_len L n hn hx]; exact gc_le n
def bq (σ : gm_S) (L : List Nat) (pr : Nat → Nat) : Prop := (∀ i y : Nat, L[i]? = some y → y < 24 ∧ pr y < 24 ∧ σ.2 10 i = nI y) ∧ ∀ y, y < 24 → σ.2 11 y = if y ∈ L then nI (pr y) else -1
def bPR (U V : Nat → Nat) (k : Nat) (p : Nat → Option Nat) (fx : Nat → Prop) (L : List Nat) (h : Nat) : Prop := ∀ i z : Nat, i < h → L[i]? = some z → ∀ f, f < k → bf_D U V p fx L f z
theorem bPR_mono {U V : Nat → Nat} {k h : Nat} {p : Nat → Option Nat} {fx : Nat → Prop} {L : List Nat} {y : Nat} (hl : h ≤ L.length) (g : bPR U V k p fx L h) : bPR U V k p fx (L ++ [y]) h := by
  intro i z hi hz f hf
  rw [List.getElem?_append_left (by omega)] at hz
  exact bf_D_mono (g i z hi hz f hf) (fun x hx => List.mem_append_left _ hx)
set_option maxHeartbeats 4000000 in
set_option maxRecDepth 100000 in
theorem c_X4_shift (l : Launch) (E : gm_E) (σ : gm_S) (p : Nat → Option Nat) (hp : mP σ p) (w t : Nat) (hw : w < 24) (ht : t < 100) (pr : Nat → Nat) (z : Nat) (r : List Nat) (hc : chn pr w (z :: r)) (h24 : ∀ y, y ∈ z :: r → y < 24 ∧ σ.2 11 y = nI (pr y) ∧ pr y < 24) : gm_MV l E yX4_shift (.code yX4_shift cX4_shift 8 none :: gw_T) { frames := 0, cells := 0, slots := 0, locals := 0 } [.ref (E.2.2 5), .int (nI z), .int (nI t), .int (nI w)] σ (fun σ2 => gm_fr σ σ2 (fun _ _ => False) (fun y => y = 8) ∧ mP σ2 (shp (z :: r) p (some t))) := by
  refine gm_enterV RX4 (by decide +kernel) rfl rfl (Nat.le_of_ble_eq_true rfl) (gm_c1_ok rfl) ?_
  intro X hC hR
  show gm_G X E 8 0 [some (.ref (E.2.2 5)), some (.int (nI z)), some (.int (nI t)), some (.int (nI w)), none, none, none, none] [] σ
  obtain ⟨Z, hZ⟩ : ∃ Z, Z = shp (z :: r) p (some t) := ⟨_, rfl⟩
  rw [← hZ] at hR
  have L : ∀ (r2 : List Nat) (z2 : Nat) (p2 : Nat → Option Nat) (t2 : Option Nat) (σ2 : gm_S) (w7 : Option Value), chn pr w (z2 :: r2) → (∀ y, y ∈ z2 :: r2 → y < 24 ∧ σ.2 11 y = nI (pr y) ∧ pr y < 24) → gm_fr σ σ2 (fun _ _ => False) (fun y => y = 8) → mP σ2 p2 → (∀ i, t2 = some i → i < 100) → Z = shp (z2 :: r2) p2 t2 → gm_G X E 8 9 [some (.ref (E.2.2 5)), some (.int (nI z)), some (.int (nI t)), some (.int (nI w)), some (.int (nI z2)), some (.int (oI t2)), some (.int 1), w7] [] σ2 := by
    intro r2
    induction r2 with
    | nil =>
      intro z2 p2 t2 σ2 w7 hc2 h242 hfr hp2 ht2 hw2
      obtain ⟨hz24, hcz, hpz⟩ := h242 z2 List.mem_cons_self
      obtain ⟨p1, p3⟩ := hp2 z2 hz24
      have hp3 : mP (gm_ar σ2 8 z2 (oI t2)) (va_up p2 z2 t2) := by
        intro e he
        by_cases q : e = z2
        · subst q; rw [gm_ar_2, va_up_self]; exact ⟨rfl, ht2⟩
        · rw [gm_ar_n _ _ (fun y => q y.2), va_up_ne _ _ q]; exact hp2 e he
      have hc11 : (gm_ar σ2 8 z2 (oI t2)).2 11 z2 = nI (pr z2) := by rw [gm_ar_r _ _ (by decide), hfr.2 11 (by decide)]; exact hcz
      have hfr3 : gm_fr σ (gm_ar σ2 8 z2 (oI t2)) (fun _ _ => False) (fun y => y = 8) := gm_fr_tr hfr (gm_fr_ar rfl)
      have hzw : z2 = w := hc2
      refine gi_ild hC dX4_shift_9 rfl ?_
      refine gi_if_eq hC 61 dX4_shift_11 (by decide) (fun h1 => ?_) (fun h1 => ?_)
      · exact absurd h1 (by decide)
      ·
        refine gi_aldn hC dX4_shift_14 rfl ?_
        refine gf_M_forestOf hC gw_320 dX4_shift_15 ?_
        refine gi_ild hC dX4_shift_18 rfl ?_
        refine gi_iald hC (gm_i8 E) hz24 rfl (by first | decide | omega) dX4_shift_20 ?_
        rw [p1]
        refine gi_ist_7 hC dX4_shift_21 (by decide) ?_
        refine gi_aldn hC dX4_shift_23 rfl ?_
        refine gf_M_forestOf hC gw_320 dX4_shift_24 ?_
        refine gi_ild hC dX4_shift_27 rfl ?_
        refine gi_ild hC dX4_shift_29 rfl ?_
        refine gi_iast hC (gm_i8 E) hz24 rfl (by first | decide | omega) dX4_shift_31 ?_
        refine gi_ild hC dX4_shift_32 rfl ?_
        refine gi_ist_5 hC dX4_shift_34 (by decide) ?_
        refine gi_ild hC dX4_shift_36 rfl ?_
        refine gi_ildn hC dX4_shift_38 rfl ?_
        refine gi_icmp_eq hC 46 dX4_shift_39 (by decide) (fun h2 => ?_) (fun h2 => ?_)
        ·
          refine gi_const hC (v := 0) dX4_shift_46 (by decide) ?_
          refine gi_ist_6 hC dX4_shift_47 (by decide) ?_
          refine gi_aldn hC dX4_shift_49 rfl ?_
          refine gf_M_cameFrom hC gw_323 dX4_shift_50 ?_
          refine gi_ild hC dX4_shift_53 rfl ?_
          refine gi_iald hC (gm_i11 E) hz24 rfl (by first | decide | omega) dX4_shift_55 ?_
          rw [hc11]
          refine gi_ist_4 hC dX4_shift_56 (by decide) ?_
          refine gi_goto hC 9 dX4_shift_58 (by decide) ?_
          refine gi_ild hC dX4_shift_9 rfl ?_
          refine gi_if_eq hC 61 dX4_shift_11 (by decide) (fun h3 => ?_) (fun h3 => ?_)
          · exact hR _ _ _ ⟨hfr3, by rw [hw2]; exact hp3⟩ dX4_shift_61
          · exact absurd rfl h3
        · exact absurd (by rw [hzw]) h2
    | cons y r2 ih =>
      intro z2 p2 t2 σ2 w7 hc2 h242 hfr hp2 ht2 hw2
      obtain ⟨hz24, hcz, hpz⟩ := h242 z2 List.mem_cons_self
      obtain ⟨p1, p3⟩ := hp2 z2 hz24
      have hp3 : mP (gm_ar σ2 8 z2 (oI t2)) (va_up p2 z2 t2) := by
        intro e he
        by_cases q : e = z2
        · subst q; rw [gm_ar_2, va_up_self]; exact ⟨rfl, ht2⟩
        · rw [gm_ar_n _ _ (fun y => q y.2), va_up_ne _ _ q]; exact hp2 e he
      have hc11 : (gm_ar σ2 8 z2 (oI t2)).2 11 z2 = nI (pr z2) := by rw [gm_ar_r _ _ (by decide), hfr.2 11 (by decide)]; exact hcz
      have hfr3 : gm_fr σ (gm_ar σ2 8 z2 (oI t2)) (fun _ _ => False) (fun y => y = 8) := gm_fr_tr hfr (gm_fr_ar rfl)
      obtain ⟨hzw, hy, hc3⟩ := hc2
      refine gi_ild hC dX4_shift_9 rfl ?_
      refine gi_if_eq hC 61 dX4_shift_11 (by decide) (fun h1 => ?_) (fun h1 => ?_)
      · exact absurd h1 (by decide)
      ·
        refine gi_aldn hC dX4_shift_14 rfl ?_
        refine gf_M_forestOf hC gw_320 dX4_shift_15 ?_
        refine gi_ild hC dX4_shift_18 rfl ?_
        refine gi_iald hC (gm_i8 E) hz24 rfl (by first | decide | omega) dX4_shift_20 ?_
        rw [p1]
        refine gi_ist_7 hC dX4_shift_21 (by decide) ?_
        refine gi_aldn hC dX4_shift_23 rfl ?_
        refine gf_M_forestOf hC gw_320 dX4_shift_24 ?_
        refine gi_ild hC dX4_shift_27 rfl ?_
        refine gi_ild hC dX4_shift_29 rfl ?_
        refine gi_iast hC (gm_i8 E) hz24 rfl (by first | decide | omega) dX4_shift_31 ?_
        refine gi_ild hC dX4_shift_32 rfl ?_
        refine gi_ist_5 hC dX4_shift_34 (by decide) ?_
        refine gi_ild hC dX4_shift_36 rfl ?_
        refine gi_ildn hC dX4_shift_38 rfl ?_
        refine gi_icmp_eq hC 46 dX4_shift_39 (by decide) (fun h2 => ?_) (fun h2 => ?_)
        · exact absurd ((nI_eq (by omega) (by omega)).mp h2) hzw
        ·
          refine gi_const hC (v := 1) dX4_shift_42 (by decide) ?_
          refine gi_goto hC 47 dX4_shift_43 (by decide) ?_
          refine gi_ist_6 hC dX4_shift_47 (by decide) ?_
          refine gi_aldn hC dX4_shift_49 rfl ?_
          refine gf_M_cameFrom hC gw_323 dX4_shift_50 ?_
          refine gi_ild hC dX4_shift_53 rfl ?_
          refine gi_iald hC (gm_i11 E) hz24 rfl (by first | decide | omega) dX4_shift_55 ?_
          rw [hc11, ← hy]
          refine gi_ist_4 hC dX4_shift_56 (by decide) ?_
          refine gi_goto hC 9 dX4_shift_58 (by decide) ?_
          exact ih y _ (p2 z2) _ _ hc3 (fun x hx => h242 x (List.mem_cons_of_mem _ hx)) hfr3 hp3 p3 hw2
  refine gi_ildn hC dX4_shift_0 rfl ?_
  refine gi_ist_4 hC dX4_shift_1 (by decide) ?_
  refine gi_ildn hC dX4_shift_3 rfl ?_
  refine gi_ist_5 hC dX4_shift_4 (by decide) ?_
  refine gi_const hC (v := 1) dX4_shift_6 (by decide) ?_
  refine gi_ist_6 hC dX4_shift_7 (by decide) ?_
  exact L r z p (some t) σ _ hc h24 gm_fr_rf hp (fun i hi => by cases hi; exact ht) hZ
set_option maxHeartbeats 4000000 in
set_option maxRecDepth 100000 in
theorem c_X4_place (l : Launch) (E : gm_E) (σ : gm_S) (U V : Nat → Nat) (hE : mE σ U V) (p : Nat → Option Nat) (hp : mP σ p) (fx : Nat → Bool) (hz9 : mZ σ 9 fx) (k : Nat) (hk : k < 7) (hok : gp_ok U V k p) (hd : ∀ e, p e ≠ none → e < 24) (w : Nat) (hw : w < 24) (hpw : p w = none) (hne : ∀ e, p e ≠ none ∨ e = w → U e ≠ V e) (hfx : ∀ e, fx e = true → p e ≠ none) : gm_MI l E yX4_place (.code yX4_place cX4_place 9 (some .boolean) :: gw_T) { frames := 1, cells := 0, slots := 0, locals := 30 } [.ref (E.2.2 5), .int (nI w), .int (nI k)] σ (fun r σ2 => gm_fr σ σ2 (fun _ _ => False) (fun y => y = 8 ∨ y = 10 ∨ y = 11 ∨ y = 13) ∧ ((r = 1 ∧ ∃ p2, mP σ2 p2 ∧ gp_ok U V k p2 ∧ (∀ e, p2 e ≠ none ↔ p e ≠ none ∨ e = w) ∧ ∀ e, fx e = true → p2 e = p e) ∨ (r = 0 ∧ mP σ2 p ∧ ¬ gp_fix U V k (fun e => p e ≠ none ∨ e = w) (fun e => fx e = true) p))) := by
  refine gm_enterI RX4 (by decide +kernel) rfl rfl (Nat.le_of_ble_eq_true rfl) (gm_c1_ok rfl) ?_
  intro X hC hR
  show gm_G X E 9 0 [some (.ref (E.2.2 5)), some (.int (nI w)), some (.int (nI k)), none, none, none, none, none, none] [] σ
  have hFR : ∀ σ2 : gm_S, gm_fr σ σ2 (fun _ _ => False) (fun y => y = 10 ∨ y = 11 ∨ y = 13) → mE σ2 U V ∧ mP σ2 p ∧ mZ σ2 9 fx := fun σ2 h => ⟨fun e he => by rw [h.2 6 (by decide)]; exact hE e he, fun e he => by rw [h.2 8 (by decide)]; exact hp e he, fun e he => by rw [h.2 9 (by decide)]; exact hz9 e he⟩
  have hwG : ∀ f z, p z ≠ some f → wG p f z = gp_F p f := fun f z hz => gh_eq fun x => ⟨fun h => h.2.1, fun h => ⟨hd x (by rw [show p x = some f from h]; exact fun q => by cases q), h, fun e => hz (e ▸ h)⟩⟩
  have hLd : ∀ (L : List Nat) (pr : Nat → Nat), bf_ok U V p (fun e => fx e = true) w L pr → ∀ y, y ∈ L → p y ≠ none ∨ y = w := fun L pr h y hy => by
    obtain ⟨i, hi⟩ := List.getElem?_of_mem hy
    cases i with
    | zero => exact Or.inr (Option.some.inj (hi.symm.trans h.1))
    | succ j =>
      obtain ⟨i2, f, _, _, c3, _⟩ := h.2.2 j y hi
      exact Or.inl (by rw [c3]; exact fun q => by cases q)
  have LE : ∀ m e (L : List Nat) (pr : Nat → Nat) (h f z : Nat) (y : Int32) (S : Nat → Bool) (σ2 : gm_S), e + m = 24 → gm_fr σ σ2 (fun _ _ => False) (fun y => y = 10 ∨ y = 11 ∨ y = 13) → bq σ2 L pr → bf_ok U V p (fun e => fx e = true) w L pr → h < L.length → L[h]? = some z → bPR U V k p (fun e => fx e = true) L h → f < k → bm y S → (∀ x, S x = true → gp_F p f x) → (∀ x, S x = true → ¬ gh_in U V (fun v => gp_F p f v ∧ v ≠ x) z) → (∀ f2, f2 < f → bf_D U V p (fun e => fx e = true) L f2 z) → (∀ x, x < e → S x = true → fx x = true ∨ x ∈ L) → (∀ (σ3 : gm_S) (L3 : List Nat) (pr3 : Nat → Nat) (w8 : Option Value), gm_fr σ σ3 (fun _ _ => False) (fun y => y = 10 ∨ y = 11 ∨ y = 13) → bq σ3 L3 pr3 → bf_ok U V p (fun e => fx e = true) w L3 pr3 → h < L3.length → L3[h]? = some z → bPR U V k p (fun e => fx e = true) L3 h → (∀ f2, f2 < f → bf_D U V p (fun e => fx e = true) L3 f2 z) → (∀ x, S x = true → fx x = true ∨ x ∈ L3) → gm_G X E 9 172 [some (.ref (E.2.2 5)), some (.int (nI w)), some (.int (nI k)), some (.int (nI (h + 1))), some (.int (nI L3.length)), some (.int (nI z)), some (.int (nI f)), some (.int y), w8] [] σ3) → gm_G X E 9 107 [some (.ref (E.2.2 5)), some (.int (nI w)), some (.int (nI k)), some (.int (nI (h + 1))), some (.int (nI L.length)), some (.int (nI z)), some (.int (nI f)), some (.int y), some (.int (nI e))] [] σ2 := by
    intro m
    induction m with
    | zero =>
      intro e L pr h f z y S σ2 he0 hfr hbq hbf hhl hz hpr hf hy hS1 hS2 hD hx KK
      have he0 : e = 24 := by omega
      subst he0
      refine gi_ild hC dX4_place_107 rfl ?_
      refine gi_bipush hC (v := 24) dX4_place_109 (by decide) ?_
      refine gi_icmp_ge hC 172 dX4_place_111 (by decide) (fun h1 => ?_) (fun h1 => ?_)
      · exact KK σ2 L pr _ hfr hbq hbf hhl hz hpr hD (fun x hxS => hx x (hd x (by rw [show p x = some f from hS1 x hxS]; exact fun q => by cases q)) hxS)
      · exact absurd (Int32.le_refl _) h1
    | succ m ih =>
      intro e L pr h f z y S σ2 he0 hfr hbq hbf hhl hz hpr hf hy hS1 hS2 hD hx KK
      obtain ⟨hE2, hp2, hz2⟩ := hFR σ2 hfr
      have hze := hz2 e (by omega)
      have hce := hbq.2 e (by omega)
      have N : (S e = true → fx e = true ∨ e ∈ L) → gm_G X E 9 166 [some (.ref (E.2.2 5)), some (.int (nI w)), some (.int (nI k)), some (.int (nI (h + 1))), some (.int (nI L.length)), some (.int (nI z)), some (.int (nI f)), some (.int y), some (.int (nI e))] [] σ2 := by
        intro hN
        refine gi_iinc_8 hC dX4_place_166 (nI_1 e) (by decide) ?_
        refine gi_goto hC 107 dX4_place_169 (by decide) ?_
        exact ih (e + 1) L pr h f z y S σ2 (by omega) hfr hbq hbf hhl hz hpr hf hy hS1 hS2 hD (fun x hx2 hxS => by
          by_cases q : x = e
          · subst q; exact hN hxS
          · exact hx x (by omega) hxS) KK
      refine gi_ild hC dX4_place_107 rfl ?_
      refine gi_bipush hC (v := 24) dX4_place_109 (by decide) ?_
      refine gi_icmp_ge hC 172 dX4_place_111 (by decide) (fun h1 => ?_) (fun h1 => ?_)
      · exact absurd h1 (nI_ge (a := e) (b := 24) (by omega) (by omega))
      ·
        refine gi_ild hC dX4_place_114 rfl ?_
        refine gi_ild hC dX4_place_116 rfl ?_
        refine gi_ishr hC dX4_place_118 ?_
        refine gi_const hC (v := 1) dX4_place_119 (by decide) ?_
        refine gi_iand hC dX4_place_120 ?_
        refine gi_const hC (v := 1) dX4_place_121 (by decide) ?_
        rw [bm_tst hy (by omega)]
        refine gi_icmp_ne hC 166 dX4_place_122 (by decide) (fun h2 => ?_) (fun h2 => ?_)
        · exact N (fun q => absurd (by rw [if_pos q]) h2)
        ·
          have hSe : S e = true := by
            cases hb : S e
            · rw [hb] at h2; exact absurd h2 (by decide)
            · rfl
          refine gi_aldn hC dX4_place_125 rfl ?_
          refine gf_M_isFixed hC gw_321 dX4_place_126 ?_
          refine gi_ild hC dX4_place_129 rfl ?_
          refine gi_zald hC (gm_i9 E) (j := e) (by omega) rfl (by first | decide | omega) dX4_place_131 ?_
          rw [hze]
          refine gi_if_ne hC 166 dX4_place_132 (by decide) (fun h3 => ?_) (fun h3 => ?_)
          · exact N (fun _ => Or.inl (by
            cases hb : fx e
            · rw [hb] at h3; exact absurd rfl h3
            · rfl))
          ·
            have hfe : ¬ fx e = true := fun q => by rw [if_pos q] at h3; exact absurd h3 (by decide)
            refine gi_aldn hC dX4_place_135 rfl ?_
            refine gf_M_cameFrom hC gw_323 dX4_place_136 ?_
            refine gi_ild hC dX4_place_139 rfl ?_
            refine gi_iald hC (gm_i11 E) (j := e) (by omega) rfl (by first | decide | omega) dX4_place_141 ?_
            rw [hce]
            refine gi_if_ge hC 166 dX4_place_142 (by decide) (fun h4 => ?_) (fun h4 => ?_)
            · exact N (fun _ => Or.inr (Classical.byContradiction fun q => by rw [if_neg q] at h4; exact absurd h4 (by decide)))
            ·
              have heL : e ∉ L := fun q => by
                rw [if_pos q] at h4
                obtain ⟨i, hi⟩ := List.getElem?_of_mem q
                have h24 := (hbq.1 i e hi).2.1
                exact absurd (nI_pos' (n := pr e) (by omega)) h4
              have hall : ∀ x, x ∈ L ++ [e] → x < 24 := fun x hx => by
                rcases List.mem_append.mp hx with q | q
                · obtain ⟨i, hi⟩ := List.getElem?_of_mem q
                  exact (hbq.1 i x hi).1
                · have : x = e := by simpa using q
                  omega
              have hbf2 := bf_push (f := f) (z := z) (i := h) hbf heL hfe (hS1 e hSe) hz (hS2 e hSe) (fun i2 z2 a b => hpr i2 z2 a b f hf)
              have hlen : (L ++ [e]).length ≤ 24 := nd_le hbf2.2.1 hall
              have hlen2 : L.length < 24 := by simp at hlen; omega
              have hz24 := (hbq.1 h z hz).1
              refine gi_aldn hC dX4_place_145 rfl ?_
              refine gf_M_cameFrom hC gw_323 dX4_place_146 ?_
              refine gi_ild hC dX4_place_149 rfl ?_
              refine gi_ild hC dX4_place_151 rfl ?_
              refine gi_iast hC (gm_i11 E) (j := e) (by omega) rfl (by first | decide | omega) dX4_place_153 ?_
              refine gi_aldn hC dX4_place_154 rfl ?_
              refine gf_M_queue hC gw_322 dX4_place_155 ?_
              refine gi_ild hC dX4_place_158 rfl ?_
              refine gi_ild hC dX4_place_160 rfl ?_
              refine gi_iast hC (gm_i10 E) (j := L.length) hlen2 rfl (by first | decide | omega) dX4_place_162 ?_
              refine gi_iinc_4 hC dX4_place_163 (nI_1 L.length) (by decide) ?_
              refine gi_iinc_8 hC dX4_place_166 (nI_1 e) (by decide) ?_
              refine gi_goto hC 107 dX4_place_169 (by decide) ?_
              rw [show L.length + 1 = (L ++ [e]).length by simp]
              refine ih (e + 1) (L ++ [e]) (va_up pr e z) h f z y S _ (by omega) (gm_fr_tr hfr (gm_fr_tr (gm_fr_ar (Or.inr (Or.inl rfl))) (gm_fr_ar (Or.inl rfl)))) ⟨fun i x hi => ?_, fun x hx24 => ?_⟩ hbf2 (by simp; omega) (by rw [List.getElem?_append_left hhl]; exact hz) (bPR_mono (by omega) hpr) hf hy hS1 hS2 (fun f2 hf2 => bf_D_mono (hD f2 hf2) (fun x hx => List.mem_append_left _ hx)) (fun x hx2 hxS => ?_) KK
              · by_cases hil : i = L.length
                · subst hil
                  have hxe : e = x := by simpa using hi
                  subst hxe
                  exact ⟨by omega, by rw [va_up_self]; exact hz24, gm_ar_2 _ _ _ _⟩
                · have hi2 : L[i]? = some x := by
                    have := (List.getElem?_eq_some_iff.mp hi).1
                    simp at this
                    rwa [List.getElem?_append_left (by omega)] at hi
                  obtain ⟨c1, c2, c3⟩ := hbq.1 i x hi2
                  have hxe : x ≠ e := fun q => heL (q ▸ List.mem_of_getElem? hi2)
                  refine ⟨c1, by rw [va_up_ne _ _ hxe]; exact c2, ?_⟩
                  rw [gm_ar_n _ _ (fun q => hil q.2), gm_ar_r _ _ (by decide)]
                  exact c3
              · rw [gm_ar_r _ _ (by decide)]
                by_cases hxe : x = e
                · subst hxe
                  rw [gm_ar_2, if_pos (by simp), va_up_self]
                · rw [gm_ar_n _ _ (fun q => hxe q.2), hbq.2 x hx24, va_up_ne _ _ hxe]
                  have : (x ∈ L ++ [e]) ↔ x ∈ L := by simp [hxe]
                  by_cases q : x ∈ L
                  · rw [if_pos q, if_pos (this.mpr q)]
                  · rw [if_neg q, if_neg (fun q2 => q (this.mp q2))]
              · by_cases q : x = e
                · subst q; exact Or.inr (by simp)
                · exact (hx x (by omega) hxS).elim Or.inl (fun q2 => Or.inr (List.mem_append_left _ q2))
  have LF : ∀ m f (L : List Nat) (pr : Nat → Nat) (h z : Nat) (σ2 : gm_S) (w7 w8 : Option Value), f + m = k → gm_fr σ σ2 (fun _ _ => False) (fun y => y = 10 ∨ y = 11 ∨ y = 13) → bq σ2 L pr → bf_ok U V p (fun e => fx e = true) w L pr → h < L.length → L[h]? = some z → bPR U V k p (fun e => fx e = true) L h → (∀ f2, f2 < f → bf_D U V p (fun e => fx e = true) L f2 z) → (∀ (σ3 : gm_S) (L3 : List Nat) (pr3 : Nat → Nat) (w5 w6 w7 w8 : Option Value), gm_fr σ σ3 (fun _ _ => False) (fun y => y = 10 ∨ y = 11 ∨ y = 13) → bq σ3 L3 pr3 → bf_ok U V p (fun e => fx e = true) w L3 pr3 → h < L3.length → bPR U V k p (fun e => fx e = true) L3 (h + 1) → gm_G X E 9 40 [some (.ref (E.2.2 5)), some (.int (nI w)), some (.int (nI k)), some (.int (nI (h + 1))), some (.int (nI L3.length)), w5, w6, w7, w8] [] σ3) → gm_G X E 9 60 [some (.ref (E.2.2 5)), some (.int (nI w)), some (.int (nI k)), some (.int (nI (h + 1))), some (.int (nI L.length)), some (.int (nI z)), some (.int (nI f)), w7, w8] [] σ2 := by
    intro m
    induction m with
    | zero =>
      intro f L pr h z σ2 w7 w8 hf0 hfr hbq hbf hhl hz hpr hD KK
      have hf0 : f = k := by omega
      subst hf0
      refine gi_ild hC dX4_place_60 rfl ?_
      refine gi_ildn hC dX4_place_62 rfl ?_
      refine gi_icmp_ge hC 178 dX4_place_63 (by decide) (fun h1 => ?_) (fun h1 => ?_)
      ·
        refine gi_goto hC 40 dX4_place_178 (by decide) ?_
        refine KK σ2 L pr _ _ _ _ hfr hbq hbf hhl (fun i z2 hi hz2 f2 hf2 => ?_)
        by_cases q : i = h
        · subst q
          rw [Option.some.inj (hz2.symm.trans hz)]
          exact hD f2 hf2
        · exact hpr i z2 (by omega) hz2 f2 hf2
      · exact absurd (Int32.le_refl _) h1
    | succ m ih =>
      intro f L pr h z σ2 w7 w8 hf0 hfr hbq hbf hhl hz hpr hD KK
      obtain ⟨hE2, hp2, hz2⟩ := hFR σ2 hfr
      have hfk : f < k := by omega
      have hz24 := (hbq.1 h z hz).1
      have hzL : z ∈ L := List.mem_of_getElem? hz
      obtain ⟨p1, p3⟩ := hp2 z hz24
      have NX : ∀ (σ3 : gm_S) (L3 : List Nat) (pr3 : Nat → Nat) (w7 w8 : Option Value), gm_fr σ σ3 (fun _ _ => False) (fun y => y = 10 ∨ y = 11 ∨ y = 13) → bq σ3 L3 pr3 → bf_ok U V p (fun e => fx e = true) w L3 pr3 → h < L3.length → L3[h]? = some z → bPR U V k p (fun e => fx e = true) L3 h → (∀ f2, f2 < f + 1 → bf_D U V p (fun e => fx e = true) L3 f2 z) → gm_G X E 9 172 [some (.ref (E.2.2 5)), some (.int (nI w)), some (.int (nI k)), some (.int (nI (h + 1))), some (.int (nI L3.length)), some (.int (nI z)), some (.int (nI f)), w7, w8] [] σ3 := by
        intro σ3 L3 pr3 w7 w8 a1 a2 a3 a4 a5 a6 a7
        refine gi_iinc_6 hC dX4_place_172 (nI_1 f) (by decide) ?_
        refine gi_goto hC 60 dX4_place_175 (by decide) ?_
        exact ih (f + 1) L3 pr3 h z σ3 _ _ (by omega) a1 a2 a3 a4 a5 a6 a7 KK
      refine gi_ild hC dX4_place_60 rfl ?_
      refine gi_ildn hC dX4_place_62 rfl ?_
      refine gi_icmp_ge hC 178 dX4_place_63 (by decide) (fun h1 => ?_) (fun h1 => ?_)
      · exact absurd h1 (nI_ge (a := f) (b := k) hfk (by omega))
      ·
        refine gi_aldn hC dX4_place_66 rfl ?_
        refine gf_M_forestOf hC gw_320 dX4_place_67 ?_
        refine gi_ild hC dX4_place_70 rfl ?_
        refine gi_iald hC (gm_i8 E) hz24 rfl (by first | decide | omega) dX4_place_72 ?_
        rw [p1]
        refine gi_ild hC dX4_place_73 rfl ?_
        refine gi_icmp_eq hC 172 dX4_place_75 (by decide) (fun h2 => ?_) (fun h2 => ?_)
        ·
          have hpz : p z = some f := oI_inj (t := some f) (fun n hn => Nat.lt_of_lt_of_le (p3 n hn) (by decide)) (fun n hn => by cases hn; omega) h2
          refine NX σ2 L pr _ _ hfr hbq hbf hhl hz hpr (fun f2 hf2 => ?_)
          by_cases q : f2 = f
          · subst q
            exact gq_ed (X := fun x => gp_F p f2 x ∧ (x ∈ L ∨ fx x = true)) ⟨hpz, Or.inl hzL⟩
          · exact hD f2 (by omega)
        ·
          have hpz : p z ≠ some f := fun q => h2 (by rw [q]; rfl)
          have hgz := hwG f z hpz
          refine gi_aldn hC dX4_place_78 rfl ?_
          refine gi_ild hC dX4_place_79 rfl ?_
          refine gi_ild hC dX4_place_81 rfl ?_
          refine gk_VI (n := 2) hC (fun l => c_X4_wayIn l E σ2 U V hE2 p hp2 f z (by omega) hz24 (hne z (hLd L pr hbf z hzL)) (by rw [hgz]; exact hok.2 f hfk)) (gm_o4 E) rfl (gw_V gw_420 gw_422 gw_17 gw_28 gw_423) rfl ⟨rfl, rfl⟩ rfl (by decide +kernel) ⟨by decide, by decide⟩ (Nat.le_of_ble_eq_true rfl) dX4_place_83 (fun y σ3 h3 => ?_)
          obtain ⟨h3f, h3⟩ := h3
          rw [hgz] at h3
          have hfr3 : gm_fr σ σ3 (fun _ _ => False) (fun y => y = 10 ∨ y = 11 ∨ y = 13) := gm_fr_tr hfr (gm_fr_mono h3f (fun _ _ q => q) (fun x hx => Or.inr (Or.inr hx)))
          have hbq3 : bq σ3 L pr := ⟨fun i x hi => by rw [h3f.2 10 (by decide)]; exact hbq.1 i x hi, fun x hx => by rw [h3f.2 11 (by decide)]; exact hbq.2 x hx⟩
          rcases h3 with ⟨rfl, hno⟩ | ⟨S, hS, hy0, hS1, hS2, hS3⟩
          ·
            refine gi_ist_7 hC dX4_place_86 (by decide) ?_
            refine gi_ild hC dX4_place_88 rfl ?_
            refine gi_if_ne hC 104 dX4_place_90 (by decide) (fun h4 => ?_) (fun h4 => ?_)
            · exact absurd rfl h4
            ·
              obtain ⟨r, d1, d2, d3, d4, d5⟩ := bf_path hbf h z hz
              have hpth := d5 (gp_F p f) hno (fun i2 z2 a b => gq_mono (fun x hx => hx.1) (hpr i2 z2 a b f hfk))
              obtain ⟨c1, c2, c3⟩ := shp_ok r z p f hok hfk hpw d2 d3 hpth
              obtain ⟨hE3, hp3, hz3⟩ := hFR σ3 hfr3
              refine gi_aldn hC dX4_place_93 rfl ?_
              refine gi_ild hC dX4_place_94 rfl ?_
              refine gi_ild hC dX4_place_96 rfl ?_
              refine gi_ildn hC dX4_place_98 rfl ?_
              refine gk_VV (n := 3) hC (fun l => c_X4_shift l E σ3 p hp3 w f hw (by omega) pr z r d2 (fun x hx => (d1 x hx).elim (fun i2 q => ⟨(hbq3.1 i2 x q.2).1, (by rw [hbq3.2 x (hbq3.1 i2 x q.2).1, if_pos (List.mem_of_getElem? q.2)]), (hbq3.1 i2 x q.2).2.1⟩))) (gm_o4 E) rfl (gw_V gw_424 gw_426 gw_18 gw_28 gw_427) rfl ⟨rfl, rfl⟩ rfl (by decide +kernel) ⟨by decide, by decide⟩ (Nat.le_of_ble_eq_true rfl) dX4_place_99 (fun σ4 h5 => ?_)
              refine gi_const hC (v := 1) dX4_place_102 (by decide) ?_
              refine hR _ _ _ _ (by decide +kernel) ⟨gm_fr_tr (gm_fr_mono hfr3 (fun _ _ q => q) (fun x hx => Or.inr hx)) (gm_fr_mono h5.1 (fun _ _ q => q) (fun x hx => Or.inl hx)), Or.inl ⟨rfl, _, h5.2, c1, c2, fun e he => c3 e (fun hm => ?_)⟩⟩ dX4_place_103
              rcases d4 e hm with q | q
              · rw [q] at he; exact absurd hpw (hfx w he)
              · exact q.2 he
          ·
            refine gi_ist_7 hC dX4_place_86 (by decide) ?_
            refine gi_ild hC dX4_place_88 rfl ?_
            refine gi_if_ne hC 104 dX4_place_90 (by decide) (fun h4 => ?_) (fun h4 => ?_)
            ·
              refine gi_const hC (v := 0) dX4_place_104 (by decide) ?_
              refine gi_ist_8 hC dX4_place_105 (by decide) ?_
              refine LE 24 0 L pr h f z y S σ3 rfl hfr3 hbq3 hbf hhl hz hpr hfk hS hS1 hS3 hD (fun x hx => absurd hx (Nat.not_lt_zero x)) (fun σ4 L4 pr4 w8 b1 b2 b3 b4 b5 b6 b7 b8 => ?_)
              refine NX σ4 L4 pr4 _ _ b1 b2 b3 b4 b5 b6 (fun f2 hf2 => ?_)
              by_cases q : f2 = f
              · subst q
                exact gq_mono (fun x hx => ⟨hS1 x hx, (b8 x hx).symm⟩) hS2
              · exact b7 f2 (by omega)
            · exact absurd h4 hy0
  have LQ : ∀ m h (L : List Nat) (pr : Nat → Nat) (σ2 : gm_S) (w5 w6 w7 w8 : Option Value), h + m = 24 → gm_fr σ σ2 (fun _ _ => False) (fun y => y = 10 ∨ y = 11 ∨ y = 13) → bq σ2 L pr → bf_ok U V p (fun e => fx e = true) w L pr → h ≤ L.length → bPR U V k p (fun e => fx e = true) L h → gm_G X E 9 40 [some (.ref (E.2.2 5)), some (.int (nI w)), some (.int (nI k)), some (.int (nI h)), some (.int (nI L.length)), w5, w6, w7, w8] [] σ2 := by
    have EX : ∀ h (L : List Nat) (pr : Nat → Nat) (σ2 : gm_S) (w5 w6 w7 w8 : Option Value), gm_fr σ σ2 (fun _ _ => False) (fun y => y = 10 ∨ y = 11 ∨ y = 13) → bq σ2 L pr → bf_ok U V p (fun e => fx e = true) w L pr → h = L.length → bPR U V k p (fun e => fx e = true) L h → gm_G X E 9 40 [some (.ref (E.2.2 5)), some (.int (nI w)), some (.int (nI k)), some (.int (nI h)), some (.int (nI L.length)), w5, w6, w7, w8] [] σ2 := by
      intro h L pr σ2 w5 w6 w7 w8 hfr hbq hbf hh hpr
      obtain ⟨hE2, hp2, hz2⟩ := hFR σ2 hfr
      subst hh
      refine gi_ildn hC dX4_place_40 rfl ?_
      refine gi_ild hC dX4_place_41 rfl ?_
      refine gi_icmp_ge hC 181 dX4_place_43 (by decide) (fun h1 => ?_) (fun h1 => ?_)
      ·
        refine gi_const hC (v := 0) dX4_place_181 (by decide) ?_
        refine hR _ _ _ _ (by decide +kernel) ⟨gm_fr_mono hfr (fun _ _ q => q) (fun x hx => Or.inr hx), Or.inr ⟨rfl, hp2, ?_⟩⟩ dX4_place_182
        refine gp_closed (n := 10) (M := 24) hd hw (fun e he => ?_) hpw hok.1 (fun x => x ∈ L ∧ x ≠ w) (fun e he => (hLd L pr hbf e he.1).elim id (fun q => absurd q he.2)) hfx (fun z hz f hf => ?_)
        · have he24 : e < 24 := he.elim (hd e) (fun q => by rw [q]; exact hw)
          exact ⟨(hE e he24).2.2.1, (hE e he24).2.2.2⟩
        · have hzL : z ∈ L := by
            rcases hz with q | q
            · exact q.1
            · rw [q]; exact List.mem_of_getElem? hbf.1
          obtain ⟨i, hi⟩ := List.getElem?_of_mem hzL
          refine gq_mono (fun x hx => ⟨hx.1, ?_⟩) (hpr i z (List.getElem?_eq_some_iff.mp hi).1 hi f hf)
          rcases hx.2 with q | q
          · refine Or.inl ⟨q, fun e => ?_⟩
            have hx1 : p x = some f := hx.1
            rw [e, hpw] at hx1
            cases hx1
          · exact Or.inr q
      · exact absurd (Int32.le_refl _) h1
    intro m
    induction m with
    | zero =>
      intro h L pr σ2 w5 w6 w7 w8 hm hfr hbq hbf hhl hpr
      have hlen : L.length ≤ 24 := nd_le hbf.2.1 (fun x hx => by
        obtain ⟨i, hi⟩ := List.getElem?_of_mem hx
        exact (hbq.1 i x hi).1)
      exact EX h L pr σ2 _ _ _ _ hfr hbq hbf (by omega) hpr
    | succ m ih =>
      intro h L pr σ2 w5 w6 w7 w8 hm hfr hbq hbf hhl hpr
      have hlen : L.length ≤ 24 := nd_le hbf.2.1 (fun x hx => by
        obtain ⟨i, hi⟩ := List.getElem?_of_mem hx
        exact (hbq.1 i x hi).1)
      by_cases hh : h = L.length
      · exact EX h L pr σ2 _ _ _ _ hfr hbq hbf hh hpr
      ·
        have hhlt : h < L.length := by omega
        obtain ⟨z, hz⟩ : ∃ z, L[h]? = some z := ⟨_, List.getElem?_eq_getElem hhlt⟩
        have hqz := (hbq.1 h z hz).2.2
        refine gi_ildn hC dX4_place_40 rfl ?_
        refine gi_ild hC dX4_place_41 rfl ?_
        refine gi_icmp_ge hC 181 dX4_place_43 (by decide) (fun h1 => ?_) (fun h1 => ?_)
        · exact absurd h1 (nI_ge (a := h) (b := L.length) hhlt (by omega))
        ·
          refine gi_aldn hC dX4_place_46 rfl ?_
          refine gf_M_queue hC gw_322 dX4_place_47 ?_
          refine gi_ildn hC dX4_place_50 rfl ?_
          refine gi_iald hC (gm_i10 E) (j := h) (by omega) rfl (by first | decide | omega) dX4_place_51 ?_
          rw [hqz]
          refine gi_ist_5 hC dX4_place_52 (by decide) ?_
          refine gi_iinc_3 hC dX4_place_54 (nI_1 h) (by decide) ?_
          refine gi_const hC (v := 0) dX4_place_57 (by decide) ?_
          refine gi_ist_6 hC dX4_place_58 (by decide) ?_
          refine LF k 0 L pr h z σ2 _ _ (by omega) hfr hbq hbf hhlt hz hpr (fun f2 hf2 => absurd hf2 (Nat.not_lt_zero f2)) (fun σ3 L3 pr3 w5 w6 w7 w8 b1 b2 b3 b4 b5 => ?_)
          exact ih (h + 1) L3 pr3 σ3 _ _ _ _ (by omega) b1 b2 b3 (by omega) b5
  have L0 : ∀ m i (σ2 : gm_S) (w4 w5 w6 w7 w8 : Option Value), i + m = 24 → gm_fr σ σ2 (fun _ _ => False) (fun y => y = 10 ∨ y = 11 ∨ y = 13) → (∀ j, j < i → σ2.2 11 j = -1) → gm_G X E 9 2 [some (.ref (E.2.2 5)), some (.int (nI w)), some (.int (nI k)), some (.int (nI i)), w4, w5, w6, w7, w8] [] σ2 := by
    intro m
    induction m with
    | zero =>
      intro i σ2 w4 w5 w6 w7 w8 hi0 hfr hz
      have hi0 : i = 24 := by omega
      subst hi0
      refine gi_ildn hC dX4_place_2 rfl ?_
      refine gi_bipush hC (v := 24) dX4_place_3 (by decide) ?_
      refine gi_icmp_ge hC 21 dX4_place_5 (by decide) (fun h1 => ?_) (fun h1 => ?_)
      ·
        refine gi_const hC (v := 0) dX4_place_21 (by decide) ?_
        refine gi_istn_3 hC dX4_place_22 (by decide) ?_
        refine gi_const hC (v := 1) dX4_place_23 (by decide) ?_
        refine gi_ist_4 hC dX4_place_24 (by decide) ?_
        refine gi_aldn hC dX4_place_26 rfl ?_
        refine gf_M_queue hC gw_322 dX4_place_27 ?_
        refine gi_const hC (v := 0) dX4_place_30 (by decide) ?_
        refine gi_ildn hC dX4_place_31 rfl ?_
        refine gi_iast hC (gm_i10 E) (j := 0) (by omega) rfl (by first | decide | omega) dX4_place_32 ?_
        refine gi_aldn hC dX4_place_33 rfl ?_
        refine gf_M_cameFrom hC gw_323 dX4_place_34 ?_
        refine gi_ildn hC dX4_place_37 rfl ?_
        refine gi_ildn hC dX4_place_38 rfl ?_
        refine gi_iast hC (gm_i11 E) hw rfl (by first | decide | omega) dX4_place_39 ?_
        refine LQ 24 0 [w] (fun _ => w) _ _ _ _ _ rfl (gm_fr_tr hfr (gm_fr_tr (gm_fr_ar (Or.inl rfl)) (gm_fr_ar (Or.inr (Or.inl rfl))))) ⟨fun i y hi => ?_, fun y hy => ?_⟩ bf_init (Nat.zero_le _) (fun i z hi => absurd hi (Nat.not_lt_zero i))
        · cases i with
          | zero =>
            have : w = y := by simpa using hi
            subst this
            exact ⟨hw, hw, by rw [gm_ar_r _ _ (by decide), gm_ar_2]⟩
          | succ i => simp at hi
        · by_cases q : y = w
          · subst q; rw [gm_ar_2, if_pos (by simp)]
          · rw [gm_ar_n _ _ (fun z => q z.2), gm_ar_r _ _ (by decide), hz y hy, if_neg (by simpa using q)]
      · exact absurd (Int32.le_refl _) h1
    | succ m ih =>
      intro i σ2 w4 w5 w6 w7 w8 hi0 hfr hz
      refine gi_ildn hC dX4_place_2 rfl ?_
      refine gi_bipush hC (v := 24) dX4_place_3 (by decide) ?_
      refine gi_icmp_ge hC 21 dX4_place_5 (by decide) (fun h1 => ?_) (fun h1 => ?_)
      · exact absurd h1 (nI_ge (a := i) (b := 24) (by omega) (by omega))
      ·
        refine gi_aldn hC dX4_place_8 rfl ?_
        refine gf_M_cameFrom hC gw_323 dX4_place_9 ?_
        refine gi_ildn hC dX4_place_12 rfl ?_
        refine gi_const hC (v := -1) dX4_place_13 (by decide) ?_
        refine gi_iast hC (gm_i11 E) (j := i) (by omega) rfl (by first | decide | omega) dX4_place_14 ?_
        refine gi_iinc_3 hC dX4_place_15 (nI_1 i) (by decide) ?_
        refine gi_goto hC 2 dX4_place_18 (by decide) ?_
        exact ih (i + 1) _ _ _ _ _ _ (by omega) (gm_fr_tr hfr (gm_fr_ar (Or.inr (Or.inl rfl)))) (fun j hj => by
          by_cases q : j = i
          · subst q; exact gm_ar_2 _ _ _ _
          · rw [gm_ar_n _ _ (fun z => q z.2)]; exact hz j (by omega))
  refine gi_const hC (v := 0) dX4_place_0 (by decide) ?_
  refine gi_istn_3 hC dX4_place_1 (by decide) ?_
  exact L0 24 0 σ _ _ _ _ _ rfl gm_fr_rf (fun j hj => absurd hj (Nat.not_lt_zero j))
