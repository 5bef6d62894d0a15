/-! A ROOTED FOREST: pure words, and its methods -/
def fr_rep (σ : gm_S) (x : Nat) (par eup : Nat → Option Nat) : Prop := ∀ j, j < 10 → σ.2 (x + 1) j = oI (par j) ∧ (∀ m, par j = some m → m < 10) ∧ bm (σ.2 (x + 2) j) (fun i => decide (eup j = some i)) ∧ ∀ e, eup j = some e → e < 24
def wm_up (par : Nat → Option Nat) : Nat → Option Nat → (Nat → Bool) → (Nat → Bool)
  | 0, _, S => S
  | _ + 1, none, S => S
  | n + 1, some v, S => wm_up par n (par v) (fun i => S i || decide (i = v))
def wm_lo (par eup : Nat → Option Nat) (A : Nat → Bool) : Nat → Option Nat → (Nat → Bool) → Option Nat × (Nat → Bool)
  | 0, m, S => (m, S)
  | _ + 1, none, S => (none, S)
  | n + 1, some v, S => if A v then (some v, S) else wm_lo par eup A n (par v) (fun i => S i || decide (eup v = some i))
def wm_en (par eup : Nat → Option Nat) (t : Nat) : Nat → Option Nat → (Nat → Bool) → (Nat → Bool)
  | 0, _, S => S
  | _ + 1, none, S => S
  | n + 1, some v, S => if v = t then S else wm_en par eup t n (par v) (fun i => S i || decide (eup v = some i))
def wm (par eup : Nat → Option Nat) (a b : Nat) : Option (Nat → Bool) := match wm_lo par eup (wm_up par 10 (some a) (fun _ => false)) 10 (some b) (fun _ => false) with
  | (none, _) => none
  | (some t, S) => some (wm_en par eup t 10 (some a) S)
/-- what the way's answer is, as an int -/
def wm_is (r : Int32) (w : Option (Nat → Bool)) : Prop := match w with
  | none => r = -1
  | some S => bm r S
def lk (n : Nat) (q : (Nat → Option Nat) × (Nat → Option Nat)) (c np ne : Option Nat) : (Nat → Option Nat) × (Nat → Option Nat) := match n, c with
  | 0, _ => q
  | _ + 1, none => q
  | n + 1, some v => lk n (va_up q.1 v np, va_up q.2 v ne) (q.1 v) (some v) (q.2 v)
/-- what stays: all fields, all rows but those of R -/
def gm_kp (σ σ' : gm_S) (R : Nat → Prop) : Prop := σ'.1 = σ.1 ∧ ∀ y, ¬ R y → σ'.2 y = σ.2 y
theorem gm_kp_rf {σ : gm_S} {R : Nat → Prop} : gm_kp σ σ R := ⟨rfl, fun _ _ => rfl⟩
theorem gm_kp_tr {σ σ2 σ3 : gm_S} {R : Nat → Prop} (h : gm_kp σ σ2 R) (g : gm_kp σ2 σ3 R) : gm_kp σ σ3 R := ⟨g.1.trans h.1, fun y hy => (g.2 y hy).trans (h.2 y hy)⟩
theorem gm_kp_ar {σ : gm_S} {R : Nat → Prop} {x j : Nat} {v : Int32} (h : R x) : gm_kp σ (gm_ar σ x j v) R := ⟨rfl, fun y hy => va_up_ne _ _ (fun e => hy (e ▸ h))⟩
theorem oI_in {r : Option Nat} {n : Nat} (h : ∀ m, r = some m → m < n) (hn : n ≤ 2 ^ 31) : ∀ m, r = some m → m < 2 ^ 31 := fun m hm => Nat.lt_of_lt_of_le (h m hm) hn
theorem fr_bm0 {e : Option Nat} {x : Int32} (h : bm x (fun i => decide (e = some i))) (he : ∀ i, e = some i → i < 24) : x = 0 ↔ e = none := by
  constructor
  · intro h0
    cases e with
    | none => rfl
    | some i =>
      have hi := he i rfl
      have := h i (by omega)
      rw [h0, b_0] at this
      simp at this
  · rintro rfl
    exact b_zero.mpr fun i hi => by rw [h i hi]; simp
theorem fr_bmi {e f : Option Nat} {x y : Int32} (h : bm x (fun i => decide (e = some i))) (g : bm y (fun i => decide (f = some i))) (he : ∀ i, e = some i → i < 24) (hf : ∀ i, f = some i → i < 24) : x = y ↔ e = f := by
  constructor
  · intro hxy
    subst hxy
    cases e with
    | none =>
      cases f with
      | none => rfl
      | some j => have hj := hf j rfl; have := (h j (by omega)).symm.trans (g j (by omega)); simp at this
    | some i =>
      have hi := he i rfl
      have := (h i (by omega)).symm.trans (g i (by omega))
      simp at this
      exact this.symm
  · rintro rfl
    exact bm_inj h g
set_option maxHeartbeats 4000000 in
set_option maxRecDepth 100000 in
theorem c_X2_way (l : Launch) (E : gm_E) {kk ii : Nat} (hk : kk < 7) (hi : ii < kk) (σ : gm_S) (par eup : Nat → Option Nat) (hp : fr_rep σ (gm_P kk + 5 + 3 * ii) par eup) (a b : Nat) (ha : a < 10) (hb : b < 10) : gm_MI l E yX2_way (.code yX2_way cX2_way 8 (some .int) :: gw_T) { frames := 0, cells := 0, slots := 0, locals := 0 } [.ref (E.2.2 (gm_P kk + 5 + 3 * ii)), .int (nI a), .int (nI b)] σ (fun r σ2 => wm_is r (wm par eup a b) ∧ σ2 = σ) := by
  refine gm_enterI RX2 (by decide +kernel) rfl rfl (Nat.le_of_ble_eq_true rfl) (gm_c1_ok rfl) ?_
  intro X hC hR
  show gm_G X E 8 0 [some (.ref (E.2.2 (gm_P kk + 5 + 3 * ii))), some (.int (nI a)), some (.int (nI b)), none, none, none, none, none] [] σ
  have L3 : ∀ n i (t : Nat) (v : Option Nat) (ed : Int32) (S : Nat → Bool) (w3 : Option Value), i + n = 10 → t < 10 → (∀ m, v = some m → m < 10) → bm ed S → wm par eup a b = some (wm_en par eup t n v S) → gm_G X E 8 112 [some (.ref (E.2.2 (gm_P kk + 5 + 3 * ii))), some (.int (nI a)), some (.int (nI b)), w3, some (.int (oI v)), some (.int ed), some (.int (nI t)), some (.int (nI i))] [] σ := by
    intro n
    induction n with
    | zero =>
      intro i t v ed S w3 hi10 ht hv hed hw
      have hi10 : i = 10 := by omega
      subst hi10
      refine gi_ild hC dX2_way_112 rfl ?_
      refine gi_bipush hC (v := 10) dX2_way_114 (by decide) ?_
      refine gi_icmp_ge hC 158 dX2_way_116 (by decide) (fun h1 => ?_) (fun h1 => ?_)
      ·
        refine gi_ild hC dX2_way_158 rfl ?_
        exact hR _ _ _ _ rfl ⟨by rw [hw]; exact hed, rfl⟩ dX2_way_160
      · exact absurd (Int32.le_refl _) h1
    | succ n ih =>
      intro i t v ed S w3 hi10 ht hv hed hw
      refine gi_ild hC dX2_way_112 rfl ?_
      refine gi_bipush hC (v := 10) dX2_way_114 (by decide) ?_
      refine gi_icmp_ge hC 158 dX2_way_116 (by decide) (fun h1 => ?_) (fun h1 => ?_)
      · exact absurd h1 (nI_ge (a := i) (b := 10) (by omega) (by omega))
      ·
        refine gi_ild hC dX2_way_119 rfl ?_
        refine gi_if_lt hC 158 dX2_way_121 (by decide) (fun h2 => ?_) (fun h2 => ?_)
        ·
          have hvn := (oI_neg (oI_in hv (by decide))).mp h2
          subst hvn
          refine gi_ild hC dX2_way_158 rfl ?_
          exact hR _ _ _ _ rfl ⟨by rw [hw]; exact hed, rfl⟩ dX2_way_160
        ·
          obtain ⟨m, rfl⟩ : ∃ m, v = some m := by
            cases v with
            | none => exact absurd (by show (-1 : Int32) < 0; decide) h2
            | some m => exact ⟨m, rfl⟩
          have hm := hv m rfl
          obtain ⟨p1, p2, p3, p4⟩ := hp m hm
          refine gi_ild hC dX2_way_124 rfl ?_
          refine gi_ild hC dX2_way_126 rfl ?_
          refine gi_icmp_eq hC 158 dX2_way_128 (by decide) (fun h3 => ?_) (fun h3 => ?_)
          ·
            have hmt : m = t := (nI_eq (by omega) (by omega)).mp h3
            have hw : wm par eup a b = some S := by rw [hw, wm_en, if_pos hmt]
            refine gi_ild hC dX2_way_158 rfl ?_
            exact hR _ _ _ _ rfl ⟨by rw [hw]; exact hed, rfl⟩ dX2_way_160
          ·
            have hmt : m ≠ t := fun q => h3 (by rw [q]; rfl)
            refine gi_ild hC dX2_way_131 rfl ?_
            refine gi_aldn hC dX2_way_133 rfl ?_
            refine gf_F_edgeUp hC hk hi gw_83 dX2_way_134 ?_
            refine gi_ild hC dX2_way_137 rfl ?_
            refine gi_iald hC (gm_iU E hk hi 2 (by decide) (by decide)) (j := m) hm rfl (by decide) dX2_way_139 ?_
            refine gi_ior hC dX2_way_140 ?_
            refine gi_ist_5 hC dX2_way_141 (by decide) ?_
            refine gi_aldn hC dX2_way_143 rfl ?_
            refine gf_F_parent hC hk hi gw_82 dX2_way_144 ?_
            refine gi_ild hC dX2_way_147 rfl ?_
            refine gi_iald hC (gm_iU E hk hi 1 (by decide) (by decide)) (j := m) hm rfl (by decide) dX2_way_149 ?_
            refine gi_ist_4 hC dX2_way_150 (by decide) ?_
            refine gi_iinc_7 hC dX2_way_152 (nI_1 i) (by decide) ?_
            refine gi_goto hC 112 dX2_way_155 (by decide) ?_
            rw [p1]
            exact ih (i + 1) t (par m) _ _ _ (by omega) ht p2 (bm_or hed p3) (by rw [hw, wm_en, if_neg hmt])
  have L2 : ∀ n i (v : Option Nat) (ab ed v4 : Int32) (A S : Nat → Bool), i + n = 10 → (∀ m, v = some m → m < 10) → bm ab A → bm ed S → wm par eup a b = (match wm_lo par eup A n v S with | (none, _) => none | (some t, S2) => some (wm_en par eup t 10 (some a) S2)) → gm_G X E 8 51 [some (.ref (E.2.2 (gm_P kk + 5 + 3 * ii))), some (.int (nI a)), some (.int (nI b)), some (.int ab), some (.int v4), some (.int ed), some (.int (oI v)), some (.int (nI i))] [] σ := by
    intro n
    induction n with
    | zero =>
      intro i v ab ed v4 A S hi10 hv hab hed hw
      have hi10 : i = 10 := by omega
      subst hi10
      rw [wm_lo] at hw
      refine gi_ild hC dX2_way_51 rfl ?_
      refine gi_bipush hC (v := 10) dX2_way_53 (by decide) ?_
      refine gi_icmp_ge hC 99 dX2_way_55 (by decide) (fun h1 => ?_) (fun h1 => ?_)
      ·
        refine gi_ild hC dX2_way_99 rfl ?_
        refine gi_if_ge hC 106 dX2_way_101 (by decide) (fun h9 => ?_) (fun h9 => ?_)
        ·
          obtain ⟨t, rfl⟩ : ∃ t, v = some t := by
            cases v with
            | none => exact absurd h9 (by show ¬ (0 : Int32) ≤ -1; decide)
            | some t => exact ⟨t, rfl⟩
          refine gi_ildn hC dX2_way_106 rfl ?_
          refine gi_ist_4 hC dX2_way_107 (by decide) ?_
          refine gi_const hC (v := 0) dX2_way_109 (by decide) ?_
          refine gi_ist_7 hC dX2_way_110 (by decide) ?_
          exact L3 10 0 t (some a) ed S _ rfl (hv t rfl) (fun m hm => by cases hm; exact ha) hed hw
        ·
          have hvn : v = none := by
            cases v with
            | none => rfl
            | some t => exact absurd (nI_pos' (Nat.lt_of_lt_of_le (hv t rfl) (by decide))) h9
          subst hvn
          refine gi_const hC (v := -1) dX2_way_104 (by decide) ?_
          exact hR _ _ _ _ rfl ⟨by rw [hw]; rfl, rfl⟩ dX2_way_105
      · exact absurd (Int32.le_refl _) h1
    | succ n ih =>
      intro i v ab ed v4 A S hi10 hv hab hed hw
      refine gi_ild hC dX2_way_51 rfl ?_
      refine gi_bipush hC (v := 10) dX2_way_53 (by decide) ?_
      refine gi_icmp_ge hC 99 dX2_way_55 (by decide) (fun h1 => ?_) (fun h1 => ?_)
      · exact absurd h1 (nI_ge (a := i) (b := 10) (by omega) (by omega))
      ·
        refine gi_ild hC dX2_way_58 rfl ?_
        refine gi_if_lt hC 99 dX2_way_60 (by decide) (fun h2 => ?_) (fun h2 => ?_)
        ·
          have hvn := (oI_neg (oI_in hv (by decide))).mp h2
          subst hvn
          rw [wm_lo] at hw
          obtain ⟨v, hvv⟩ : ∃ v : Option Nat, v = none := ⟨_, rfl⟩
          rw [← hvv] at hw hv h2 ⊢
          refine gi_ild hC dX2_way_99 rfl ?_
          refine gi_if_ge hC 106 dX2_way_101 (by decide) (fun h9 => ?_) (fun h9 => ?_)
          ·
            obtain ⟨t, rfl⟩ : ∃ t, v = some t := by
              cases v with
              | none => exact absurd h9 (by show ¬ (0 : Int32) ≤ -1; decide)
              | some t => exact ⟨t, rfl⟩
            refine gi_ildn hC dX2_way_106 rfl ?_
            refine gi_ist_4 hC dX2_way_107 (by decide) ?_
            refine gi_const hC (v := 0) dX2_way_109 (by decide) ?_
            refine gi_ist_7 hC dX2_way_110 (by decide) ?_
            exact L3 10 0 t (some a) ed S _ rfl (hv t rfl) (fun m hm => by cases hm; exact ha) hed hw
          ·
            have hvn : v = none := by
              cases v with
              | none => rfl
              | some t => exact absurd (nI_pos' (Nat.lt_of_lt_of_le (hv t rfl) (by decide))) h9
            subst hvn
            refine gi_const hC (v := -1) dX2_way_104 (by decide) ?_
            exact hR _ _ _ _ rfl ⟨by rw [hw]; rfl, rfl⟩ dX2_way_105
        ·
          obtain ⟨m, rfl⟩ : ∃ m, v = some m := by
            cases v with
            | none => exact absurd (by show (-1 : Int32) < 0; decide) h2
            | some m => exact ⟨m, rfl⟩
          have hm := hv m rfl
          obtain ⟨p1, p2, p3, p4⟩ := hp m hm
          refine gi_ildn hC dX2_way_63 rfl ?_
          refine gi_ild hC dX2_way_64 rfl ?_
          refine gi_ishr hC dX2_way_66 ?_
          refine gi_const hC (v := 1) dX2_way_67 (by decide) ?_
          refine gi_iand hC dX2_way_68 ?_
          refine gi_if_ne hC 99 dX2_way_69 (by decide) (fun h3 => ?_) (fun h3 => ?_)
          ·
            have hAm : A m = true := by
              rw [show ((ab >>> (oI (some m) &&& 31)) &&& 1) = if A m then 1 else 0 from bm_tst hab (by omega)] at h3
              cases hA : A m
              · rw [hA] at h3; exact absurd rfl h3
              · rfl
            rw [wm_lo, if_pos hAm] at hw
            obtain ⟨v, hvv⟩ : ∃ v : Option Nat, v = some m := ⟨_, rfl⟩
            rw [← hvv] at hw hv h2 ⊢
            refine gi_ild hC dX2_way_99 rfl ?_
            refine gi_if_ge hC 106 dX2_way_101 (by decide) (fun h9 => ?_) (fun h9 => ?_)
            ·
              obtain ⟨t, rfl⟩ : ∃ t, v = some t := by
                cases v with
                | none => exact absurd h9 (by show ¬ (0 : Int32) ≤ -1; decide)
                | some t => exact ⟨t, rfl⟩
              refine gi_ildn hC dX2_way_106 rfl ?_
              refine gi_ist_4 hC dX2_way_107 (by decide) ?_
              refine gi_const hC (v := 0) dX2_way_109 (by decide) ?_
              refine gi_ist_7 hC dX2_way_110 (by decide) ?_
              exact L3 10 0 t (some a) ed S _ rfl (hv t rfl) (fun m hm => by cases hm; exact ha) hed hw
            ·
              have hvn : v = none := by
                cases v with
                | none => rfl
                | some t => exact absurd (nI_pos' (Nat.lt_of_lt_of_le (hv t rfl) (by decide))) h9
              subst hvn
              refine gi_const hC (v := -1) dX2_way_104 (by decide) ?_
              exact hR _ _ _ _ rfl ⟨by rw [hw]; rfl, rfl⟩ dX2_way_105
          ·
            have hAm : A m = false := by
              rw [show ((ab >>> (oI (some m) &&& 31)) &&& 1) = if A m then 1 else 0 from bm_tst hab (by omega)] at h3
              cases hA : A m
              · rfl
              · rw [hA] at h3; exact absurd h3 (by decide)
            rw [wm_lo, hAm] at hw
            refine gi_ild hC dX2_way_72 rfl ?_
            refine gi_aldn hC dX2_way_74 rfl ?_
            refine gf_F_edgeUp hC hk hi gw_83 dX2_way_75 ?_
            refine gi_ild hC dX2_way_78 rfl ?_
            refine gi_iald hC (gm_iU E hk hi 2 (by decide) (by decide)) (j := m) hm rfl (by decide) dX2_way_80 ?_
            refine gi_ior hC dX2_way_81 ?_
            refine gi_ist_5 hC dX2_way_82 (by decide) ?_
            refine gi_aldn hC dX2_way_84 rfl ?_
            refine gf_F_parent hC hk hi gw_82 dX2_way_85 ?_
            refine gi_ild hC dX2_way_88 rfl ?_
            refine gi_iald hC (gm_iU E hk hi 1 (by decide) (by decide)) (j := m) hm rfl (by decide) dX2_way_90 ?_
            refine gi_ist_6 hC dX2_way_91 (by decide) ?_
            refine gi_iinc_7 hC dX2_way_93 (nI_1 i) (by decide) ?_
            refine gi_goto hC 51 dX2_way_96 (by decide) ?_
            rw [p1]
            exact ih (i + 1) (par m) ab _ _ A _ (by omega) p2 hab (bm_or hed p3) hw
  have L1 : ∀ n i (v : Option Nat) (ab : Int32) (A : Nat → Bool) (w6 w7 : Option Value), i + n = 10 → (∀ m, v = some m → m < 10) → bm ab A → wm_up par 10 (some a) (fun _ => false) = wm_up par n v A → gm_G X E 8 8 [some (.ref (E.2.2 (gm_P kk + 5 + 3 * ii))), some (.int (nI a)), some (.int (nI b)), some (.int ab), some (.int (oI v)), some (.int (nI i)), w6, w7] [] σ := by
    intro n
    induction n with
    | zero =>
      intro i v ab A w6 w7 hi10 hv hab hw
      have hi10 : i = 10 := by omega
      subst hi10
      rw [wm_up] at hw
      refine gi_ild hC dX2_way_8 rfl ?_
      refine gi_bipush hC (v := 10) dX2_way_10 (by decide) ?_
      refine gi_icmp_ge hC 42 dX2_way_12 (by decide) (fun h1 => ?_) (fun h1 => ?_)
      ·
        refine gi_const hC (v := 0) dX2_way_42 (by decide) ?_
        refine gi_ist_5 hC dX2_way_43 (by decide) ?_
        refine gi_ildn hC dX2_way_45 rfl ?_
        refine gi_ist_6 hC dX2_way_46 (by decide) ?_
        refine gi_const hC (v := 0) dX2_way_48 (by decide) ?_
        refine gi_ist_7 hC dX2_way_49 (by decide) ?_
        exact L2 10 0 (some b) ab 0 _ A (fun _ => false) rfl (fun m hm => by cases hm; exact hb) hab bm_0 (by rw [wm, hw])
      · exact absurd (Int32.le_refl _) h1
    | succ n ih =>
      intro i v ab A w6 w7 hi10 hv hab hw
      refine gi_ild hC dX2_way_8 rfl ?_
      refine gi_bipush hC (v := 10) dX2_way_10 (by decide) ?_
      refine gi_icmp_ge hC 42 dX2_way_12 (by decide) (fun h1 => ?_) (fun h1 => ?_)
      · exact absurd h1 (nI_ge (a := i) (b := 10) (by omega) (by omega))
      ·
        refine gi_ild hC dX2_way_15 rfl ?_
        refine gi_if_lt hC 42 dX2_way_17 (by decide) (fun h2 => ?_) (fun h2 => ?_)
        ·
          have hvn := (oI_neg (oI_in hv (by decide))).mp h2
          subst hvn
          rw [wm_up] at hw
          refine gi_const hC (v := 0) dX2_way_42 (by decide) ?_
          refine gi_ist_5 hC dX2_way_43 (by decide) ?_
          refine gi_ildn hC dX2_way_45 rfl ?_
          refine gi_ist_6 hC dX2_way_46 (by decide) ?_
          refine gi_const hC (v := 0) dX2_way_48 (by decide) ?_
          refine gi_ist_7 hC dX2_way_49 (by decide) ?_
          exact L2 10 0 (some b) ab 0 _ A (fun _ => false) rfl (fun m hm => by cases hm; exact hb) hab bm_0 (by rw [wm, hw])
        ·
          obtain ⟨m, rfl⟩ : ∃ m, v = some m := by
            cases v with
            | none => exact absurd (by show (-1 : Int32) < 0; decide) h2
            | some m => exact ⟨m, rfl⟩
          have hm := hv m rfl
          obtain ⟨p1, p2, p3, p4⟩ := hp m hm
          rw [wm_up] at hw
          refine gi_ildn hC dX2_way_20 rfl ?_
          refine gi_const hC (v := 1) dX2_way_21 (by decide) ?_
          refine gi_ild hC dX2_way_22 rfl ?_
          refine gi_ishl hC dX2_way_24 ?_
          refine gi_ior hC dX2_way_25 ?_
          refine gi_istn_3 hC dX2_way_26 (by decide) ?_
          refine gi_aldn hC dX2_way_27 rfl ?_
          refine gf_F_parent hC hk hi gw_82 dX2_way_28 ?_
          refine gi_ild hC dX2_way_31 rfl ?_
          refine gi_iald hC (gm_iU E hk hi 1 (by decide) (by decide)) (j := m) hm rfl (by decide) dX2_way_33 ?_
          refine gi_ist_4 hC dX2_way_34 (by decide) ?_
          refine gi_iinc_5 hC dX2_way_36 (nI_1 i) (by decide) ?_
          refine gi_goto hC 8 dX2_way_39 (by decide) ?_
          rw [p1]
          exact ih (i + 1) (par m) _ _ _ _ (by omega) p2 (bm_or hab (bm_pow (by omega))) hw
  refine gi_const hC (v := 0) dX2_way_0 (by decide) ?_
  refine gi_istn_3 hC dX2_way_1 (by decide) ?_
  refine gi_ildn hC dX2_way_2 rfl ?_
  refine gi_ist_4 hC dX2_way_3 (by decide) ?_
  refine gi_const hC (v := 0) dX2_way_5 (by decide) ?_
  refine gi_ist_5 hC dX2_way_6 (by decide) ?_
  exact L1 10 0 (some a) 0 (fun _ => false) _ _ rfl (fun m hm => by cases hm; exact ha) bm_0 rfl
set_option maxHeartbeats 4000000 in
set_option maxRecDepth 100000 in
theorem c_X2_unlink (l : Launch) (E : gm_E) {kk ii : Nat} (hk : kk < 7) (hi : ii < kk) (σ : gm_S) (par eup : Nat → Option Nat) (hp : fr_rep σ (gm_P kk + 5 + 3 * ii) par eup) (e a b : Nat) (x : Int32) (he : e < 24) (hx : bm x (fun i => decide (some e = some i))) (ha : a < 10) (hb : b < 10) : gm_MV l E yX2_unlink (.code yX2_unlink cX2_unlink 5 none :: gw_T) { frames := 0, cells := 0, slots := 0, locals := 0 } [.ref (E.2.2 (gm_P kk + 5 + 3 * ii)), .int x, .int (nI a), .int (nI b)] σ (fun σ2 => gm_kp σ σ2 (fun y => y = gm_P kk + 5 + 3 * ii + 1 ∨ y = gm_P kk + 5 + 3 * ii + 2) ∧ fr_rep σ2 (gm_P kk + 5 + 3 * ii) (va_up par (if eup a = some e then a else b) none) (va_up eup (if eup a = some e then a else b) none)) := by
  refine gm_enterV RX2 (by decide +kernel) rfl rfl (Nat.le_of_ble_eq_true rfl) (gm_c1_ok rfl) ?_
  intro X hC hR
  show gm_G X E 5 0 [some (.ref (E.2.2 (gm_P kk + 5 + 3 * ii))), some (.int x), some (.int (nI a)), some (.int (nI b)), none] [] σ
  have K : ∀ c : Nat, c < 10 → c = (if eup a = some e then a else b) → ∀ w4 : Option Value, gm_G X E 5 15 [some (.ref (E.2.2 (gm_P kk + 5 + 3 * ii))), some (.int x), some (.int (nI a)), some (.int (nI b)), w4] [.int (nI c)] σ := by
    intro c hc hce w4
    refine gi_ist_4 hC dX2_unlink_15 (by decide) ?_
    refine gi_aldn hC dX2_unlink_17 rfl ?_
    refine gf_F_parent hC hk hi gw_82 dX2_unlink_18 ?_
    refine gi_ild hC dX2_unlink_21 rfl ?_
    refine gi_const hC (v := -1) dX2_unlink_23 (by decide) ?_
    refine gi_iast hC (gm_iU E hk hi 1 (by decide) (by decide)) (j := c) hc rfl (by decide) dX2_unlink_24 ?_
    refine gi_aldn hC dX2_unlink_25 rfl ?_
    refine gf_F_edgeUp hC hk hi gw_83 dX2_unlink_26 ?_
    refine gi_ild hC dX2_unlink_29 rfl ?_
    refine gi_const hC (v := 0) dX2_unlink_31 (by decide) ?_
    refine gi_iast hC (gm_iU E hk hi 2 (by decide) (by decide)) (j := c) hc rfl (by decide) dX2_unlink_32 ?_
    refine hR _ _ _ ⟨gm_kp_tr (gm_kp_ar (Or.inl rfl)) (gm_kp_ar (Or.inr rfl)), ?_⟩ dX2_unlink_33
    rw [← hce]
    intro j hj
    obtain ⟨p1, p2, p3, p4⟩ := hp j hj
    have e1 : (gm_ar (gm_ar σ (gm_P kk + 5 + 3 * ii + 1) c (-1)) (gm_P kk + 5 + 3 * ii + 2) c 0).2 (gm_P kk + 5 + 3 * ii + 1) j = upd (σ.2 (gm_P kk + 5 + 3 * ii + 1)) c (-1) j := by
      simp only [gm_ar]
      rw [va_up_ne _ _ (by omega), va_up_self]
    have e2 : (gm_ar (gm_ar σ (gm_P kk + 5 + 3 * ii + 1) c (-1)) (gm_P kk + 5 + 3 * ii + 2) c 0).2 (gm_P kk + 5 + 3 * ii + 2) j = upd (σ.2 (gm_P kk + 5 + 3 * ii + 2)) c 0 j := by
      simp only [gm_ar]
      rw [va_up_self, va_up_ne _ _ (by omega)]
    rw [e1, e2]
    by_cases hjc : j = c
    · subst hjc
      rw [pk_us, pk_us, va_up_self, va_up_self]
      exact ⟨rfl, fun m hm => (by cases hm), fun i _ => (by rw [b_0]; simp), fun m hm => (by cases hm)⟩
    · rw [pk_un hjc, pk_un hjc, va_up_ne _ _ hjc, va_up_ne _ _ hjc]
      exact ⟨p1, p2, p3, p4⟩
  obtain ⟨p1, p2, p3, p4⟩ := hp a ha
  refine gi_aldn hC dX2_unlink_0 rfl ?_
  refine gf_F_edgeUp hC hk hi gw_83 dX2_unlink_1 ?_
  refine gi_ildn hC dX2_unlink_4 rfl ?_
  refine gi_iald hC (gm_iU E hk hi 2 (by decide) (by decide)) (j := a) ha rfl (by decide) dX2_unlink_5 ?_
  refine gi_ildn hC dX2_unlink_6 rfl ?_
  refine gi_icmp_ne hC 14 dX2_unlink_7 (by decide) (fun h1 => ?_) (fun h1 => ?_)
  ·
    refine gi_ildn hC dX2_unlink_14 rfl ?_
    exact K b hb (by rw [if_neg]; exact fun q => h1 ((fr_bmi p3 hx p4 (fun i hi => by cases hi; exact he)).mpr q)) _
  ·
    refine gi_ildn hC dX2_unlink_10 rfl ?_
    refine gi_goto hC 15 dX2_unlink_11 (by decide) ?_
    exact K a ha (by rw [if_pos ((fr_bmi p3 hx p4 (fun i hi => by cases hi; exact he)).mp h1)]) _
set_option maxHeartbeats 4000000 in
set_option maxRecDepth 100000 in
theorem c_X2_link (l : Launch) (E : gm_E) {kk ii : Nat} (hk : kk < 7) (hi : ii < kk) (σ : gm_S) (par eup : Nat → Option Nat) (hp : fr_rep σ (gm_P kk + 5 + 3 * ii) par eup) (e a b : Nat) (x : Int32) (he : e < 24) (hx : bm x (fun i => decide (some e = some i))) (ha : a < 10) (hb : b < 10) : gm_MV l E yX2_link (.code yX2_link cX2_link 10 none :: gw_T) { frames := 0, cells := 0, slots := 0, locals := 0 } [.ref (E.2.2 (gm_P kk + 5 + 3 * ii)), .int x, .int (nI a), .int (nI b)] σ (fun σ2 => gm_kp σ σ2 (fun y => y = gm_P kk + 5 + 3 * ii + 1 ∨ y = gm_P kk + 5 + 3 * ii + 2) ∧ fr_rep σ2 (gm_P kk + 5 + 3 * ii) (lk 10 (par, eup) (some b) (some a) (some e)).1 (lk 10 (par, eup) (some b) (some a) (some e)).2) := by
  refine gm_enterV RX2 (by decide +kernel) rfl rfl (Nat.le_of_ble_eq_true rfl) (gm_c1_ok rfl) ?_
  intro X hC hR
  show gm_G X E 10 0 [some (.ref (E.2.2 (gm_P kk + 5 + 3 * ii))), some (.int x), some (.int (nI a)), some (.int (nI b)), none, none, none, none, none, none] [] σ
  have L : ∀ n i (σ2 : gm_S) (q : (Nat → Option Nat) × (Nat → Option Nat)) (c np ne : Option Nat) (y : Int32) (w8 w9 : Option Value), i + n = 10 → gm_kp σ σ2 (fun y => y = gm_P kk + 5 + 3 * ii + 1 ∨ y = gm_P kk + 5 + 3 * ii + 2) → fr_rep σ2 (gm_P kk + 5 + 3 * ii) q.1 q.2 → (∀ m, c = some m → m < 10) → (∀ m, np = some m → m < 10) → (∀ m, ne = some m → m < 24) → bm y (fun i => decide (ne = some i)) → lk 10 (par, eup) (some b) (some a) (some e) = lk n q c np ne → gm_G X E 10 12 [some (.ref (E.2.2 (gm_P kk + 5 + 3 * ii))), some (.int x), some (.int (nI a)), some (.int (nI b)), some (.int (oI c)), some (.int (oI np)), some (.int y), some (.int (nI i)), w8, w9] [] σ2 := by
    intro n
    induction n with
    | zero =>
      intro i σ2 q c np ne y w8 w9 hi10 hkp hq hc hnp hne hy hw
      have hi10 : i = 10 := by omega
      subst hi10
      rw [lk] at hw
      refine gi_ild hC dX2_link_12 rfl ?_
      refine gi_bipush hC (v := 10) dX2_link_14 (by decide) ?_
      refine gi_icmp_ge hC 78 dX2_link_16 (by decide) (fun h1 => ?_) (fun h1 => ?_)
      · exact hR _ _ _ ⟨hkp, by rw [hw]; exact hq⟩ dX2_link_78
      · exact absurd (Int32.le_refl _) h1
    | succ n ih =>
      intro i σ2 q c np ne y w8 w9 hi10 hkp hq hc hnp hne hy hw
      refine gi_ild hC dX2_link_12 rfl ?_
      refine gi_bipush hC (v := 10) dX2_link_14 (by decide) ?_
      refine gi_icmp_ge hC 78 dX2_link_16 (by decide) (fun h1 => ?_) (fun h1 => ?_)
      · exact absurd h1 (nI_ge (a := i) (b := 10) (by omega) (by omega))
      ·
        refine gi_ild hC dX2_link_19 rfl ?_
        refine gi_if_lt hC 78 dX2_link_21 (by decide) (fun h2 => ?_) (fun h2 => ?_)
        ·
          have hcn := (oI_neg (oI_in hc (by decide))).mp h2
          subst hcn
          rw [lk] at hw
          exact hR _ _ _ ⟨hkp, by rw [hw]; exact hq⟩ dX2_link_78
        ·
          obtain ⟨m, rfl⟩ : ∃ m, c = some m := by
            cases c with
            | none => exact absurd (by show (-1 : Int32) < 0; decide) h2
            | some m => exact ⟨m, rfl⟩
          have hm := hc m rfl
          obtain ⟨p1, p2, p3, p4⟩ := hq m hm
          rw [lk] at hw
          refine gi_aldn hC dX2_link_24 rfl ?_
          refine gf_F_parent hC hk hi gw_82 dX2_link_25 ?_
          refine gi_ild hC dX2_link_28 rfl ?_
          refine gi_iald hC (gm_iU E hk hi 1 (by decide) (by decide)) (j := m) hm rfl (by decide) dX2_link_30 ?_
          refine gi_ist_8 hC dX2_link_31 (by decide) ?_
          refine gi_aldn hC dX2_link_33 rfl ?_
          refine gf_F_edgeUp hC hk hi gw_83 dX2_link_34 ?_
          refine gi_ild hC dX2_link_37 rfl ?_
          refine gi_iald hC (gm_iU E hk hi 2 (by decide) (by decide)) (j := m) hm rfl (by decide) dX2_link_39 ?_
          refine gi_ist_9 hC dX2_link_40 (by decide) ?_
          refine gi_aldn hC dX2_link_42 rfl ?_
          refine gf_F_parent hC hk hi gw_82 dX2_link_43 ?_
          refine gi_ild hC dX2_link_46 rfl ?_
          refine gi_ild hC dX2_link_48 rfl ?_
          refine gi_iast hC (gm_iU E hk hi 1 (by decide) (by decide)) (j := m) hm rfl (by decide) dX2_link_50 ?_
          refine gi_aldn hC dX2_link_51 rfl ?_
          refine gf_F_edgeUp hC hk hi gw_83 dX2_link_52 ?_
          refine gi_ild hC dX2_link_55 rfl ?_
          refine gi_ild hC dX2_link_57 rfl ?_
          refine gi_iast hC (gm_iU E hk hi 2 (by decide) (by decide)) (j := m) hm rfl (by decide) dX2_link_59 ?_
          refine gi_ild hC dX2_link_60 rfl ?_
          refine gi_ist_5 hC dX2_link_62 (by decide) ?_
          refine gi_ild hC dX2_link_64 rfl ?_
          refine gi_ist_6 hC dX2_link_66 (by decide) ?_
          refine gi_ild hC dX2_link_68 rfl ?_
          refine gi_ist_4 hC dX2_link_70 (by decide) ?_
          refine gi_iinc_7 hC dX2_link_72 (nI_1 i) (by decide) ?_
          refine gi_goto hC 12 dX2_link_75 (by decide) ?_
          rw [p1]
          refine ih (i + 1) _ (va_up q.1 m np, va_up q.2 m ne) (q.1 m) (some m) (q.2 m) _ _ _ (by omega) (gm_kp_tr hkp (gm_kp_tr (gm_kp_ar (Or.inl rfl)) (gm_kp_ar (Or.inr rfl)))) ?_ p2 hc p4 p3 hw
          intro j hj
          obtain ⟨q1, q2, q3, q4⟩ := hq j hj
          have e1 : (gm_ar (gm_ar σ2 (gm_P kk + 5 + 3 * ii + 1) m (oI np)) (gm_P kk + 5 + 3 * ii + 2) m y).2 (gm_P kk + 5 + 3 * ii + 1) j = upd (σ2.2 (gm_P kk + 5 + 3 * ii + 1)) m (oI np) j := by
            simp only [gm_ar]
            rw [va_up_ne _ _ (by omega), va_up_self]
          have e2 : (gm_ar (gm_ar σ2 (gm_P kk + 5 + 3 * ii + 1) m (oI np)) (gm_P kk + 5 + 3 * ii + 2) m y).2 (gm_P kk + 5 + 3 * ii + 2) j = upd (σ2.2 (gm_P kk + 5 + 3 * ii + 2)) m y j := by
            simp only [gm_ar]
            rw [va_up_self, va_up_ne _ _ (by omega)]
          rw [e1, e2]
          show _ = oI (va_up q.1 m np j) ∧ (∀ m2, va_up q.1 m np j = some m2 → m2 < 10) ∧ bm _ (fun i => decide (va_up q.2 m ne j = some i)) ∧ ∀ e2, va_up q.2 m ne j = some e2 → e2 < 24
          by_cases hjm : j = m
          · subst hjm
            rw [pk_us, pk_us, va_up_self, va_up_self]
            exact ⟨rfl, hnp, hy, hne⟩
          · rw [pk_un hjm, pk_un hjm, va_up_ne _ _ hjm, va_up_ne _ _ hjm]
            exact ⟨q1, q2, q3, q4⟩
  refine gi_ildn hC dX2_link_0 rfl ?_
  refine gi_ist_4 hC dX2_link_1 (by decide) ?_
  refine gi_ildn hC dX2_link_3 rfl ?_
  refine gi_ist_5 hC dX2_link_4 (by decide) ?_
  refine gi_ildn hC dX2_link_6 rfl ?_
  refine gi_ist_6 hC dX2_link_7 (by decide) ?_
  refine gi_const hC (v := 0) dX2_link_9 (by decide) ?_
  refine gi_ist_7 hC dX2_link_10 (by decide) ?_
  exact L 10 0 σ (par, eup) (some b) (some a) (some e) x _ _ rfl gm_kp_rf hp (fun m hm => by cases hm; exact hb) (fun m hm => by cases hm; exact ha) (fun m hm => by cases hm; exact he) hx rfl
