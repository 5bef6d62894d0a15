/-! A ROOTED FOREST: pure words, and its methods -/
def fr_rep (σ : gm_S) (x : Nat) (par eup : Nat → Option Nat) : Prop := ∀ j, j < 10 → σ.2 (x + 1) j = oI (par j) ∧ (∀ m, par j = some m → m < 10) ∧ bm (σ.2 (x + 2) j) (fun i => decide (eup j = some i)) ∧ ∀ e, eup j = some e → e < 24
def wm_up (par : Nat → Option Nat) : Nat → Option Nat → (Nat → Bool) → (Nat → Bool)
  | 0, _, S => S
  | _ + 1, none, S => S
  | n + 1, some v, S => wm_up par n (par v) (fun i => S i || decide (i = v))
def wm_lo (par eup : Nat → Option Nat) (A : Nat → Bool) : Nat → Option Nat → (Nat → Bool) → Option Nat × (Nat → Bool)
  | 0, m, S => (m, S)
  | _ + 1, none, S => (none, S)
  | n + 1, some v, S => if A v then (some v, S) else wm_lo par eup A n (par v) (fun i => S i || decide (eup v = some i))
def wm_en (par eup : Nat → Option Nat) (t : Nat) : Nat → Option Nat → (Nat → Bool) → (Nat → Bool)
  | 0, _, S => S
  | _ + 1, none, S => S
  | n + 1, some v, S => if v = t then S else wm_en par eup t n (par v) (fun i => S i || decide (eup v = some i))
def wm (par eup : Nat → Option Nat) (a b : Nat) : Option (Nat → Bool) := match wm_lo par eup (wm_up par 10 (some a) (fun _ => false)) 10 (some b) (fun _ => false) with
  | (none, _) => none
  | (some t, S) => some (wm_en par eup t 10 (some a) S)
/-- what the way's answer is, as an int -/
def wm_is (r : Int32) (w : Option (Nat → Bool)) : Prop := match w with
  | none => r = -1
  | some S => bm r S
def lk (n : Nat) (q : (Nat → Option Nat) × (Nat → Option Nat)) (c np ne : Option Nat) : (Nat → Option Nat) × (Nat → Option Nat) := match n, c with
  | 0, _ => q
  | _ + 1, none => q
  | n + 1, some v => lk n (va_up q.1 v np, va_up q.2 v ne) (q.1 v) (some v) (q.2 v)
/-- what unlink leaves: nothing where the edge hangs -/
def ul (eup x : Nat → Option Nat) (e : Nat) : Nat → Option Nat := fun v => if eup v = some e then none else x v
theorem ul_some {eup x : Nat → Option Nat} {e v m : Nat} (h : ul eup x e v = some m) : x v = some m := by
  unfold ul at h
  split at h
  · cases h
  · exact h
/-- what stays: all fields, all rows but those of R -/
def gm_kp (σ σ' : gm_S) (R : Nat → Prop) : Prop := σ'.1 = σ.1 ∧ ∀ y, ¬ R y → σ'.2 y = σ.2 y
theorem gm_kp_rf {σ : gm_S} {R : Nat → Prop} : gm_kp σ σ R := ⟨rfl, fun _ _ => rfl⟩
theorem gm_kp_tr {σ σ2 σ3 : gm_S} {R : Nat → Prop} (h : gm_kp σ σ2 R) (g : gm_kp σ2 σ3 R) : gm_kp σ σ3 R := ⟨g.1.trans h.1, fun y hy => (g.2 y hy).trans (h.2 y hy)⟩
theorem gm_kp_ar {σ : gm_S} {R : Nat → Prop} {x j : Nat} {v : Int32} (h : R x) : gm_kp σ (gm_ar σ x j v) R := ⟨rfl, fun y hy => va_up_ne _ _ (fun e => hy (e ▸ h))⟩
theorem oI_in {r : Option Nat} {n : Nat} (h : ∀ m, r = some m → m < n) (hn : n ≤ 2 ^ 31) : ∀ m, r = some m → m < 2 ^ 31 := fun m hm => Nat.lt_of_lt_of_le (h m hm) hn
theorem fr_bm0 {e : Option Nat} {x : Int32} (h : bm x (fun i => decide (e = some i))) (he : ∀ i, e = some i → i < 24) : x = 0 ↔ e = none := by
  constructor
  · intro h0
    cases e with
    | none => rfl
    | some i =>
      have hi := he i rfl
      have := h i (by omega)
      rw [h0, b_0] at this
      simp at this
  · rintro rfl
    exact b_zero.mpr fun i hi => by rw [h i hi]; simp
theorem fr_bmi {e f : Option Nat} {x y : Int32} (h : bm x (fun i => decide (e = some i))) (g : bm y (fun i => decide (f = some i))) (he : ∀ i, e = some i → i < 24) (hf : ∀ i, f = some i → i < 24) : x = y ↔ e = f := by
  constructor
  · intro hxy
    subst hxy
    cases e with
    | none =>
      cases f with
      | none => rfl
      | some j => have hj := hf j rfl; have := (h j (by omega)).symm.trans (g j (by omega)); simp at this
    | some i =>
      have hi := he i rfl
      have := (h i (by omega)).symm.trans (g i (by omega))
      simp at this
      exact this.symm
  · rintro rfl
    exact bm_inj h g
set_option maxHeartbeats 4000000 in
set_option maxRecDepth 100000 in
theorem c_X2_way (l : Launch) (E : gm_E) {kk ii : Nat} (hk : kk < 7) (hi : ii < kk) (σ : gm_S) (par eup : Nat → Option Nat) (hp : fr_rep σ (gm_P kk + 5 + 3 * ii) par eup) (a b : Nat) (ha : a < 10) (hb : b < 10) : gm_MI l E yX2_way (.code yX2_way cX2_way 8 (some .int) :: gw_T) { frames := 0, cells := 0, slots := 0, locals := 0 } [.ref (E.2.2 (gm_P kk + 5 + 3 * ii)), .int (nI a), .int (nI b)] σ (fun r σ2 => wm_is r (wm par eup a b) ∧ σ2 = σ) := by
  refine gm_enterI RX2 (by decide +kernel) rfl rfl (Nat.le_of_ble_eq_true rfl) (gm_c1_ok rfl) ?_
  intro X hC hR
  show gm_G X E 8 0 [some (.ref (E.2.2 (gm_P kk + 5 + 3 * ii))), some (.int (nI a)), some (.int (nI b)), none, none, none, none, none] [] σ
  have L3 : ∀ n i (t : Nat) (v : Option Nat) (ed : Int32) (S : Nat → Bool) (w3 : Option Value), i + n = 10 → t < 10 → (∀ m, v = some m → m < 10) → bm ed S → wm par eup a b = some (wm_en par eup t n v S) → gm_G X E 8 130 [some (.ref (E.2.2 (gm_P kk + 5 + 3 * ii))), some (.int (nI a)), some (.int (nI b)), w3, some (.int (oI v)), some (.int ed), some (.int (nI t)), some (.int (nI i))] [] σ := by
    intro n
    induction n with
    | zero =>
      intro i t v ed S w3 hi10 ht hv hed hw
      have hi10 : i = 10 := by omega
      subst hi10
      refine gi_ild hC dX2_way_130 rfl ?_
      refine gi_bipush hC (v := 10) dX2_way_132 (by decide) ?_
      refine gi_icmp_ge hC 186 dX2_way_134 (by decide) (fun h1 => ?_) (fun h1 => ?_)
      ·
        refine gi_ild hC dX2_way_186 rfl ?_
        exact hR _ _ _ _ rfl ⟨by rw [hw]; exact hed, rfl⟩ dX2_way_188
      · exact absurd (Int32.le_refl _) h1
    | succ n ih =>
      intro i t v ed S w3 hi10 ht hv hed hw
      refine gi_ild hC dX2_way_130 rfl ?_
      refine gi_bipush hC (v := 10) dX2_way_132 (by decide) ?_
      refine gi_icmp_ge hC 186 dX2_way_134 (by decide) (fun h1 => ?_) (fun h1 => ?_)
      · exact absurd h1 (nI_ge (a := i) (b := 10) (by omega) (by omega))
      ·
        refine gi_ild hC dX2_way_137 rfl ?_
        refine gi_if_lt hC 186 dX2_way_139 (by decide) (fun h2 => ?_) (fun h2 => ?_)
        ·
          have hvn := (oI_neg (oI_in hv (by decide))).mp h2
          subst hvn
          refine gi_ild hC dX2_way_186 rfl ?_
          exact hR _ _ _ _ rfl ⟨by rw [hw]; exact hed, rfl⟩ dX2_way_188
        ·
          obtain ⟨m, rfl⟩ : ∃ m, v = some m := by
            cases v with
            | none => exact absurd (by show (-1 : Int32) < 0; decide) h2
            | some m => exact ⟨m, rfl⟩
          have hm := hv m rfl
          obtain ⟨p1, p2, p3, p4⟩ := hp m hm
          refine gi_ild hC dX2_way_142 rfl ?_
          refine gi_bipush hC (v := 10) dX2_way_144 (by decide) ?_
          refine gi_icmp_ge hC 186 dX2_way_146 (by decide) (fun h4 => ?_) (fun h4 => ?_)
          · exact absurd h4 (nI_ge (a := m) (b := 10) hm (by omega))
          ·
            refine gi_ild hC dX2_way_149 rfl ?_
            refine gi_ild hC dX2_way_151 rfl ?_
            refine gi_icmp_ne hC 159 dX2_way_153 (by decide) (fun h3 => ?_) (fun h3 => ?_)
            ·
              have hmt : m ≠ t := fun q => h3 (by rw [q]; rfl)
              refine gi_ild hC dX2_way_159 rfl ?_
              refine gi_aldn hC dX2_way_161 rfl ?_
              refine gf_F_edgeUp hC hk hi gw_83 dX2_way_162 ?_
              refine gi_ild hC dX2_way_165 rfl ?_
              refine gi_iald hC (gm_iU E hk hi 2 (by decide) (by decide)) (j := m) hm rfl (by first | decide | omega) dX2_way_167 ?_
              refine gi_ior hC dX2_way_168 ?_
              refine gi_ist_5 hC dX2_way_169 (by decide) ?_
              refine gi_aldn hC dX2_way_171 rfl ?_
              refine gf_F_parent hC hk hi gw_82 dX2_way_172 ?_
              refine gi_ild hC dX2_way_175 rfl ?_
              refine gi_iald hC (gm_iU E hk hi 1 (by decide) (by decide)) (j := m) hm rfl (by first | decide | omega) dX2_way_177 ?_
              refine gi_ist_4 hC dX2_way_178 (by decide) ?_
              refine gi_iinc_7 hC dX2_way_180 (nI_1 i) (by decide) ?_
              refine gi_goto hC 130 dX2_way_183 (by decide) ?_
              rw [p1]
              exact ih (i + 1) t (par m) _ _ _ (by omega) ht p2 (bm_or hed p3) (by rw [hw, wm_en, if_neg hmt])
            ·
              have hmt : m = t := (nI_eq (by omega) (by omega)).mp h3
              have hw : wm par eup a b = some S := by rw [hw, wm_en, if_pos hmt]
              refine gi_goto hC 186 dX2_way_156 (by decide) ?_
              refine gi_ild hC dX2_way_186 rfl ?_
              exact hR _ _ _ _ rfl ⟨by rw [hw]; exact hed, rfl⟩ dX2_way_188
  have L2 : ∀ n i (v : Option Nat) (ab ed v4 : Int32) (A S : Nat → Bool), i + n = 10 → (∀ m, v = some m → m < 10) → bm ab A → bm ed S → wm par eup a b = (match wm_lo par eup A n v S with | (none, _) => none | (some t, S2) => some (wm_en par eup t 10 (some a) S2)) → gm_G X E 8 58 [some (.ref (E.2.2 (gm_P kk + 5 + 3 * ii))), some (.int (nI a)), some (.int (nI b)), some (.int ab), some (.int v4), some (.int ed), some (.int (oI v)), some (.int (nI i))] [] σ := by
    intro n
    induction n with
    | zero =>
      intro i v ab ed v4 A S hi10 hv hab hed hw
      have hi10 : i = 10 := by omega
      subst hi10
      rw [wm_lo] at hw
      refine gi_ild hC dX2_way_58 rfl ?_
      refine gi_bipush hC (v := 10) dX2_way_60 (by decide) ?_
      refine gi_icmp_ge hC 117 dX2_way_62 (by decide) (fun h1 => ?_) (fun h1 => ?_)
      ·
        refine gi_ild hC dX2_way_117 rfl ?_
        refine gi_if_ge hC 124 dX2_way_119 (by decide) (fun h9 => ?_) (fun h9 => ?_)
        ·
          obtain ⟨t, rfl⟩ : ∃ t, v = some t := by
            cases v with
            | none => exact absurd h9 (by show ¬ (0 : Int32) ≤ -1; decide)
            | some t => exact ⟨t, rfl⟩
          refine gi_ildn hC dX2_way_124 rfl ?_
          refine gi_ist_4 hC dX2_way_125 (by decide) ?_
          refine gi_const hC (v := 0) dX2_way_127 (by decide) ?_
          refine gi_ist_7 hC dX2_way_128 (by decide) ?_
          exact L3 10 0 t (some a) ed S _ rfl (hv t rfl) (fun m hm => by cases hm; exact ha) hed hw
        ·
          have hvn : v = none := by
            cases v with
            | none => rfl
            | some t => exact absurd (nI_pos' (Nat.lt_of_lt_of_le (hv t rfl) (by decide))) h9
          subst hvn
          refine gi_const hC (v := -1) dX2_way_122 (by decide) ?_
          exact hR _ _ _ _ rfl ⟨by rw [hw]; rfl, rfl⟩ dX2_way_123
      · exact absurd (Int32.le_refl _) h1
    | succ n ih =>
      intro i v ab ed v4 A S hi10 hv hab hed hw
      refine gi_ild hC dX2_way_58 rfl ?_
      refine gi_bipush hC (v := 10) dX2_way_60 (by decide) ?_
      refine gi_icmp_ge hC 117 dX2_way_62 (by decide) (fun h1 => ?_) (fun h1 => ?_)
      · exact absurd h1 (nI_ge (a := i) (b := 10) (by omega) (by omega))
      ·
        refine gi_ild hC dX2_way_65 rfl ?_
        refine gi_if_lt hC 117 dX2_way_67 (by decide) (fun h2 => ?_) (fun h2 => ?_)
        ·
          have hvn := (oI_neg (oI_in hv (by decide))).mp h2
          subst hvn
          rw [wm_lo] at hw
          obtain ⟨v, hvv⟩ : ∃ v : Option Nat, v = none := ⟨_, rfl⟩
          rw [← hvv] at hw hv h2 ⊢
          refine gi_ild hC dX2_way_117 rfl ?_
          refine gi_if_ge hC 124 dX2_way_119 (by decide) (fun h9 => ?_) (fun h9 => ?_)
          ·
            obtain ⟨t, rfl⟩ : ∃ t, v = some t := by
              cases v with
              | none => exact absurd h9 (by show ¬ (0 : Int32) ≤ -1; decide)
              | some t => exact ⟨t, rfl⟩
            refine gi_ildn hC dX2_way_124 rfl ?_
            refine gi_ist_4 hC dX2_way_125 (by decide) ?_
            refine gi_const hC (v := 0) dX2_way_127 (by decide) ?_
            refine gi_ist_7 hC dX2_way_128 (by decide) ?_
            exact L3 10 0 t (some a) ed S _ rfl (hv t rfl) (fun m hm => by cases hm; exact ha) hed hw
          ·
            have hvn : v = none := by
              cases v with
              | none => rfl
              | some t => exact absurd (nI_pos' (Nat.lt_of_lt_of_le (hv t rfl) (by decide))) h9
            subst hvn
            refine gi_const hC (v := -1) dX2_way_122 (by decide) ?_
            exact hR _ _ _ _ rfl ⟨by rw [hw]; rfl, rfl⟩ dX2_way_123
        ·
          obtain ⟨m, rfl⟩ : ∃ m, v = some m := by
            cases v with
            | none => exact absurd (by show (-1 : Int32) < 0; decide) h2
            | some m => exact ⟨m, rfl⟩
          have hm := hv m rfl
          obtain ⟨p1, p2, p3, p4⟩ := hp m hm
          refine gi_ild hC dX2_way_70 rfl ?_
          refine gi_bipush hC (v := 10) dX2_way_72 (by decide) ?_
          refine gi_icmp_ge hC 117 dX2_way_74 (by decide) (fun h4 => ?_) (fun h4 => ?_)
          · exact absurd h4 (nI_ge (a := m) (b := 10) hm (by omega))
          ·
            refine gi_ildn hC dX2_way_77 rfl ?_
            refine gi_ild hC dX2_way_78 rfl ?_
            refine gi_ishr hC dX2_way_80 ?_
            refine gi_const hC (v := 1) dX2_way_81 (by decide) ?_
            refine gi_iand hC dX2_way_82 ?_
            refine gi_const hC (v := 1) dX2_way_83 (by decide) ?_
            refine gi_icmp_ne hC 90 dX2_way_84 (by decide) (fun h3 => ?_) (fun h3 => ?_)
            ·
              have hAm : A m = false := by
                rw [show ((ab >>> (oI (some m) &&& 31)) &&& 1) = if A m then 1 else 0 from bm_tst hab (by omega)] at h3
                cases hA : A m
                · rfl
                · rw [hA] at h3; exact absurd rfl h3
              rw [wm_lo, hAm] at hw
              refine gi_ild hC dX2_way_90 rfl ?_
              refine gi_aldn hC dX2_way_92 rfl ?_
              refine gf_F_edgeUp hC hk hi gw_83 dX2_way_93 ?_
              refine gi_ild hC dX2_way_96 rfl ?_
              refine gi_iald hC (gm_iU E hk hi 2 (by decide) (by decide)) (j := m) hm rfl (by first | decide | omega) dX2_way_98 ?_
              refine gi_ior hC dX2_way_99 ?_
              refine gi_ist_5 hC dX2_way_100 (by decide) ?_
              refine gi_aldn hC dX2_way_102 rfl ?_
              refine gf_F_parent hC hk hi gw_82 dX2_way_103 ?_
              refine gi_ild hC dX2_way_106 rfl ?_
              refine gi_iald hC (gm_iU E hk hi 1 (by decide) (by decide)) (j := m) hm rfl (by first | decide | omega) dX2_way_108 ?_
              refine gi_ist_6 hC dX2_way_109 (by decide) ?_
              refine gi_iinc_7 hC dX2_way_111 (nI_1 i) (by decide) ?_
              refine gi_goto hC 58 dX2_way_114 (by decide) ?_
              rw [p1]
              exact ih (i + 1) (par m) ab _ _ A _ (by omega) p2 hab (bm_or hed p3) hw
            ·
              have hAm : A m = true := by
                rw [show ((ab >>> (oI (some m) &&& 31)) &&& 1) = if A m then 1 else 0 from bm_tst hab (by omega)] at h3
                cases hA : A m
                · rw [hA] at h3; exact absurd h3 (by decide)
                · rfl
              rw [wm_lo, if_pos hAm] at hw
              refine gi_goto hC 117 dX2_way_87 (by decide) ?_
              clear h3 h4 p1 p2 p3 p4
              obtain ⟨v, hvv⟩ : ∃ v : Option Nat, v = some m := ⟨_, rfl⟩
              rw [← hvv] at hw hv h2 ⊢
              refine gi_ild hC dX2_way_117 rfl ?_
              refine gi_if_ge hC 124 dX2_way_119 (by decide) (fun h9 => ?_) (fun h9 => ?_)
              ·
                obtain ⟨t, rfl⟩ : ∃ t, v = some t := by
                  cases v with
                  | none => exact absurd h9 (by show ¬ (0 : Int32) ≤ -1; decide)
                  | some t => exact ⟨t, rfl⟩
                refine gi_ildn hC dX2_way_124 rfl ?_
                refine gi_ist_4 hC dX2_way_125 (by decide) ?_
                refine gi_const hC (v := 0) dX2_way_127 (by decide) ?_
                refine gi_ist_7 hC dX2_way_128 (by decide) ?_
                exact L3 10 0 t (some a) ed S _ rfl (hv t rfl) (fun m hm => by cases hm; exact ha) hed hw
              ·
                have hvn : v = none := by
                  cases v with
                  | none => rfl
                  | some t => exact absurd (nI_pos' (Nat.lt_of_lt_of_le (hv t rfl) (by decide))) h9
                subst hvn
                refine gi_const hC (v := -1) dX2_way_122 (by decide) ?_
                exact hR _ _ _ _ rfl ⟨by rw [hw]; rfl, rfl⟩ dX2_way_123
  have L1 : ∀ n i (v : Option Nat) (ab : Int32) (A : Nat → Bool) (w6 w7 : Option Value), i + n = 10 → (∀ m, v = some m → m < 10) → bm ab A → wm_up par 10 (some a) (fun _ => false) = wm_up par n v A → gm_G X E 8 8 [some (.ref (E.2.2 (gm_P kk + 5 + 3 * ii))), some (.int (nI a)), some (.int (nI b)), some (.int ab), some (.int (oI v)), some (.int (nI i)), w6, w7] [] σ := by
    intro n
    induction n with
    | zero =>
      intro i v ab A w6 w7 hi10 hv hab hw
      have hi10 : i = 10 := by omega
      subst hi10
      rw [wm_up] at hw
      refine gi_ild hC dX2_way_8 rfl ?_
      refine gi_bipush hC (v := 10) dX2_way_10 (by decide) ?_
      refine gi_icmp_ge hC 49 dX2_way_12 (by decide) (fun h1 => ?_) (fun h1 => ?_)
      ·
        refine gi_const hC (v := 0) dX2_way_49 (by decide) ?_
        refine gi_ist_5 hC dX2_way_50 (by decide) ?_
        refine gi_ildn hC dX2_way_52 rfl ?_
        refine gi_ist_6 hC dX2_way_53 (by decide) ?_
        refine gi_const hC (v := 0) dX2_way_55 (by decide) ?_
        refine gi_ist_7 hC dX2_way_56 (by decide) ?_
        exact L2 10 0 (some b) ab 0 _ A (fun _ => false) rfl (fun m hm => by cases hm; exact hb) hab bm_0 (by rw [wm, hw])
      · exact absurd (Int32.le_refl _) h1
    | succ n ih =>
      intro i v ab A w6 w7 hi10 hv hab hw
      refine gi_ild hC dX2_way_8 rfl ?_
      refine gi_bipush hC (v := 10) dX2_way_10 (by decide) ?_
      refine gi_icmp_ge hC 49 dX2_way_12 (by decide) (fun h1 => ?_) (fun h1 => ?_)
      · exact absurd h1 (nI_ge (a := i) (b := 10) (by omega) (by omega))
      ·
        refine gi_ild hC dX2_way_15 rfl ?_
        refine gi_if_lt hC 49 dX2_way_17 (by decide) (fun h2 => ?_) (fun h2 => ?_)
        ·
          have hvn := (oI_neg (oI_in hv (by decide))).mp h2
          subst hvn
          rw [wm_up] at hw
          refine gi_const hC (v := 0) dX2_way_49 (by decide) ?_
          refine gi_ist_5 hC dX2_way_50 (by decide) ?_
          refine gi_ildn hC dX2_way_52 rfl ?_
          refine gi_ist_6 hC dX2_way_53 (by decide) ?_
          refine gi_const hC (v := 0) dX2_way_55 (by decide) ?_
          refine gi_ist_7 hC dX2_way_56 (by decide) ?_
          exact L2 10 0 (some b) ab 0 _ A (fun _ => false) rfl (fun m hm => by cases hm; exact hb) hab bm_0 (by rw [wm, hw])
        ·
          obtain ⟨m, rfl⟩ : ∃ m, v = some m := by
            cases v with
            | none => exact absurd (by show (-1 : Int32) < 0; decide) h2
            | some m => exact ⟨m, rfl⟩
          have hm := hv m rfl
          obtain ⟨p1, p2, p3, p4⟩ := hp m hm
          rw [wm_up] at hw
          refine gi_ild hC dX2_way_20 rfl ?_
          refine gi_bipush hC (v := 10) dX2_way_22 (by decide) ?_
          refine gi_icmp_ge hC 49 dX2_way_24 (by decide) (fun h4 => ?_) (fun h4 => ?_)
          · exact absurd h4 (nI_ge (a := m) (b := 10) hm (by omega))
          ·
            refine gi_ildn hC dX2_way_27 rfl ?_
            refine gi_const hC (v := 1) dX2_way_28 (by decide) ?_
            refine gi_ild hC dX2_way_29 rfl ?_
            refine gi_ishl hC dX2_way_31 ?_
            refine gi_ior hC dX2_way_32 ?_
            refine gi_istn_3 hC dX2_way_33 (by decide) ?_
            refine gi_aldn hC dX2_way_34 rfl ?_
            refine gf_F_parent hC hk hi gw_82 dX2_way_35 ?_
            refine gi_ild hC dX2_way_38 rfl ?_
            refine gi_iald hC (gm_iU E hk hi 1 (by decide) (by decide)) (j := m) hm rfl (by first | decide | omega) dX2_way_40 ?_
            refine gi_ist_4 hC dX2_way_41 (by decide) ?_
            refine gi_iinc_5 hC dX2_way_43 (nI_1 i) (by decide) ?_
            refine gi_goto hC 8 dX2_way_46 (by decide) ?_
            rw [p1]
            exact ih (i + 1) (par m) _ _ _ _ (by omega) p2 (bm_or hab (bm_pow (by omega))) hw
  refine gi_const hC (v := 0) dX2_way_0 (by decide) ?_
  refine gi_istn_3 hC dX2_way_1 (by decide) ?_
  refine gi_ildn hC dX2_way_2 rfl ?_
  refine gi_ist_4 hC dX2_way_3 (by decide) ?_
  refine gi_const hC (v := 0) dX2_way_5 (by decide) ?_
  refine gi_ist_5 hC dX2_way_6 (by decide) ?_
  exact L1 10 0 (some a) 0 (fun _ => false) _ _ rfl (fun m hm => by cases hm; exact ha) bm_0 rfl
set_option maxHeartbeats 4000000 in
set_option maxRecDepth 100000 in
theorem c_X2_unlink (l : Launch) (E : gm_E) {kk ii : Nat} (hk : kk < 7) (hi : ii < kk) (σ : gm_S) (par eup : Nat → Option Nat) (hp : fr_rep σ (gm_P kk + 5 + 3 * ii) par eup) (e : Nat) (x : Int32) (he : e < 24) (hx : bm x (fun i => decide (some e = some i))) : gm_MV l E yX2_unlink (.code yX2_unlink cX2_unlink 3 none :: gw_T) { frames := 0, cells := 0, slots := 0, locals := 0 } [.ref (E.2.2 (gm_P kk + 5 + 3 * ii)), .int x] σ (fun σ2 => gm_kp σ σ2 (fun y => y = gm_P kk + 5 + 3 * ii + 1 ∨ y = gm_P kk + 5 + 3 * ii + 2) ∧ fr_rep σ2 (gm_P kk + 5 + 3 * ii) (ul eup par e) (ul eup eup e)) := by
  refine gm_enterV RX2 (by decide +kernel) rfl rfl (Nat.le_of_ble_eq_true rfl) (gm_c1_ok rfl) ?_
  intro X hC hR
  show gm_G X E 3 0 [some (.ref (E.2.2 (gm_P kk + 5 + 3 * ii))), some (.int x), none] [] σ
  have L : ∀ n i (σ2 : gm_S), i + n = 10 → gm_kp σ σ2 (fun y => y = gm_P kk + 5 + 3 * ii + 1 ∨ y = gm_P kk + 5 + 3 * ii + 2) → (∀ j, j < i → σ2.2 (gm_P kk + 5 + 3 * ii + 1) j = oI (ul eup par e j) ∧ bm (σ2.2 (gm_P kk + 5 + 3 * ii + 2) j) (fun i => decide (ul eup eup e j = some i))) → (∀ j, i ≤ j → σ2.2 (gm_P kk + 5 + 3 * ii + 1) j = σ.2 (gm_P kk + 5 + 3 * ii + 1) j ∧ σ2.2 (gm_P kk + 5 + 3 * ii + 2) j = σ.2 (gm_P kk + 5 + 3 * ii + 2) j) → gm_G X E 3 2 [some (.ref (E.2.2 (gm_P kk + 5 + 3 * ii))), some (.int x), some (.int (nI i))] [] σ2 := by
    intro n
    induction n with
    | zero =>
      intro i σ2 hi0 hkp hc hs
      have hi0 : i = 10 := by omega
      subst hi0
      refine gi_ildn hC dX2_unlink_2 rfl ?_
      refine gi_bipush hC (v := 10) dX2_unlink_3 (by decide) ?_
      refine gi_icmp_ge hC 38 dX2_unlink_5 (by decide) (fun h1 => ?_) (fun h1 => ?_)
      · exact hR _ _ _ ⟨hkp, fun j hj => ⟨(hc j hj).1, fun m hm => (hp j hj).2.1 m (ul_some hm), (hc j hj).2, fun d hd => (hp j hj).2.2.2 d (ul_some hd)⟩⟩ dX2_unlink_38
      · exact absurd (Int32.le_refl _) h1
    | succ n ih =>
      intro i σ2 hi0 hkp hc hs
      have hi9 : i < 10 := by omega
      obtain ⟨p1, p2, p3, p4⟩ := hp i hi9
      obtain ⟨s1, s2⟩ := hs i (Nat.le_refl i)
      refine gi_ildn hC dX2_unlink_2 rfl ?_
      refine gi_bipush hC (v := 10) dX2_unlink_3 (by decide) ?_
      refine gi_icmp_ge hC 38 dX2_unlink_5 (by decide) (fun h1 => ?_) (fun h1 => ?_)
      · exact absurd h1 (nI_ge (a := i) (b := 10) (by omega) (by omega))
      ·
        refine gi_aldn hC dX2_unlink_8 rfl ?_
        refine gf_F_edgeUp hC hk hi gw_83 dX2_unlink_9 ?_
        refine gi_ildn hC dX2_unlink_12 rfl ?_
        refine gi_iald hC (gm_iU E hk hi 2 (by decide) (by decide)) (j := i) hi9 rfl (by first | decide | omega) dX2_unlink_13 ?_
        rw [s2]
        refine gi_ildn hC dX2_unlink_14 rfl ?_
        refine gi_icmp_ne hC 32 dX2_unlink_15 (by decide) (fun h3 => ?_) (fun h3 => ?_)
        ·
          have hne : eup i ≠ some e := fun q => h3 ((fr_bmi p3 hx p4 (fun i hi => by cases hi; exact he)).mpr q)
          refine gi_iinc_2 hC dX2_unlink_32 (nI_1 i) (by decide) ?_
          refine gi_goto hC 2 dX2_unlink_35 (by decide) ?_
          refine ih (i + 1) σ2 (by omega) hkp (fun j hj => ?_) (fun j hj => hs j (by omega))
          by_cases c : j = i
          · subst c
            rw [s1, s2, show ul eup par e j = par j from if_neg hne, show ul eup eup e j = eup j from if_neg hne]
            exact ⟨p1, p3⟩
          · exact hc j (by omega)
        ·
          have heq : eup i = some e := (fr_bmi p3 hx p4 (fun i hi => by cases hi; exact he)).mp h3
          refine gi_aldn hC dX2_unlink_18 rfl ?_
          refine gf_F_parent hC hk hi gw_82 dX2_unlink_19 ?_
          refine gi_ildn hC dX2_unlink_22 rfl ?_
          refine gi_const hC (v := -1) dX2_unlink_23 (by decide) ?_
          refine gi_iast hC (gm_iU E hk hi 1 (by decide) (by decide)) (j := i) hi9 rfl (by first | decide | omega) dX2_unlink_24 ?_
          refine gi_aldn hC dX2_unlink_25 rfl ?_
          refine gf_F_edgeUp hC hk hi gw_83 dX2_unlink_26 ?_
          refine gi_ildn hC dX2_unlink_29 rfl ?_
          refine gi_const hC (v := 0) dX2_unlink_30 (by decide) ?_
          refine gi_iast hC (gm_iU E hk hi 2 (by decide) (by decide)) (j := i) hi9 rfl (by first | decide | omega) dX2_unlink_31 ?_
          refine gi_iinc_2 hC dX2_unlink_32 (nI_1 i) (by decide) ?_
          refine gi_goto hC 2 dX2_unlink_35 (by decide) ?_
          have e1 : ∀ j, (gm_ar (gm_ar σ2 (gm_P kk + 5 + 3 * ii + 1) i (-1)) (gm_P kk + 5 + 3 * ii + 2) i 0).2 (gm_P kk + 5 + 3 * ii + 1) j = upd (σ2.2 (gm_P kk + 5 + 3 * ii + 1)) i (-1) j := fun j => by
            simp only [gm_ar]
            rw [va_up_ne _ _ (by omega), va_up_self]
          have e2 : ∀ j, (gm_ar (gm_ar σ2 (gm_P kk + 5 + 3 * ii + 1) i (-1)) (gm_P kk + 5 + 3 * ii + 2) i 0).2 (gm_P kk + 5 + 3 * ii + 2) j = upd (σ2.2 (gm_P kk + 5 + 3 * ii + 2)) i 0 j := fun j => by
            simp only [gm_ar]
            rw [va_up_self, va_up_ne _ _ (by omega)]
          refine ih (i + 1) _ (by omega) (gm_kp_tr hkp (gm_kp_tr (gm_kp_ar (Or.inl rfl)) (gm_kp_ar (Or.inr rfl)))) (fun j hj => ?_) (fun j hj => ?_)
          · rw [e1, e2]
            by_cases c : j = i
            · subst c
              rw [pk_us, pk_us, show ul eup par e j = none from if_pos heq, show ul eup eup e j = none from if_pos heq]
              exact ⟨rfl, fun i _ => (by rw [b_0]; simp)⟩
            · rw [pk_un c, pk_un c]
              exact hc j (by omega)
          · rw [e1, e2, pk_un (by omega), pk_un (by omega)]
            exact hs j (by omega)
  refine gi_const hC (v := 0) dX2_unlink_0 (by decide) ?_
  refine gi_istn_2 hC dX2_unlink_1 (by decide) ?_
  exact L 10 0 σ rfl gm_kp_rf (fun j hj => absurd hj (Nat.not_lt_zero j)) (fun j _ => ⟨rfl, rfl⟩)
set_option maxHeartbeats 4000000 in
set_option maxRecDepth 100000 in
theorem c_X2_link (l : Launch) (E : gm_E) {kk ii : Nat} (hk : kk < 7) (hi : ii < kk) (σ : gm_S) (par eup : Nat → Option Nat) (hp : fr_rep σ (gm_P kk + 5 + 3 * ii) par eup) (e a b : Nat) (x : Int32) (he : e < 24) (hx : bm x (fun i => decide (some e = some i))) (ha : a < 10) (hb : b < 10) : gm_MV l E yX2_link (.code yX2_link cX2_link 10 none :: gw_T) { frames := 0, cells := 0, slots := 0, locals := 0 } [.ref (E.2.2 (gm_P kk + 5 + 3 * ii)), .int x, .int (nI a), .int (nI b)] σ (fun σ2 => gm_kp σ σ2 (fun y => y = gm_P kk + 5 + 3 * ii + 1 ∨ y = gm_P kk + 5 + 3 * ii + 2) ∧ fr_rep σ2 (gm_P kk + 5 + 3 * ii) (lk 10 (par, eup) (some b) (some a) (some e)).1 (lk 10 (par, eup) (some b) (some a) (some e)).2) := by
  refine gm_enterV RX2 (by decide +kernel) rfl rfl (Nat.le_of_ble_eq_true rfl) (gm_c1_ok rfl) ?_
  intro X hC hR
  show gm_G X E 10 0 [some (.ref (E.2.2 (gm_P kk + 5 + 3 * ii))), some (.int x), some (.int (nI a)), some (.int (nI b)), none, none, none, none, none, none] [] σ
  have L : ∀ n i (σ2 : gm_S) (q : (Nat → Option Nat) × (Nat → Option Nat)) (c np ne : Option Nat) (y : Int32) (w8 w9 : Option Value), i + n = 10 → gm_kp σ σ2 (fun y => y = gm_P kk + 5 + 3 * ii + 1 ∨ y = gm_P kk + 5 + 3 * ii + 2) → fr_rep σ2 (gm_P kk + 5 + 3 * ii) q.1 q.2 → (∀ m, c = some m → m < 10) → (∀ m, np = some m → m < 10) → (∀ m, ne = some m → m < 24) → bm y (fun i => decide (ne = some i)) → lk 10 (par, eup) (some b) (some a) (some e) = lk n q c np ne → gm_G X E 10 12 [some (.ref (E.2.2 (gm_P kk + 5 + 3 * ii))), some (.int x), some (.int (nI a)), some (.int (nI b)), some (.int (oI c)), some (.int (oI np)), some (.int y), some (.int (nI i)), w8, w9] [] σ2 := by
    intro n
    induction n with
    | zero =>
      intro i σ2 q c np ne y w8 w9 hi10 hkp hq hc hnp hne hy hw
      have hi10 : i = 10 := by omega
      subst hi10
      rw [lk] at hw
      refine gi_ild hC dX2_link_12 rfl ?_
      refine gi_bipush hC (v := 10) dX2_link_14 (by decide) ?_
      refine gi_icmp_ge hC 85 dX2_link_16 (by decide) (fun h1 => ?_) (fun h1 => ?_)
      · exact hR _ _ _ ⟨hkp, by rw [hw]; exact hq⟩ dX2_link_85
      · exact absurd (Int32.le_refl _) h1
    | succ n ih =>
      intro i σ2 q c np ne y w8 w9 hi10 hkp hq hc hnp hne hy hw
      refine gi_ild hC dX2_link_12 rfl ?_
      refine gi_bipush hC (v := 10) dX2_link_14 (by decide) ?_
      refine gi_icmp_ge hC 85 dX2_link_16 (by decide) (fun h1 => ?_) (fun h1 => ?_)
      · exact absurd h1 (nI_ge (a := i) (b := 10) (by omega) (by omega))
      ·
        refine gi_ild hC dX2_link_19 rfl ?_
        refine gi_if_lt hC 85 dX2_link_21 (by decide) (fun h2 => ?_) (fun h2 => ?_)
        ·
          have hcn := (oI_neg (oI_in hc (by decide))).mp h2
          subst hcn
          rw [lk] at hw
          exact hR _ _ _ ⟨hkp, by rw [hw]; exact hq⟩ dX2_link_85
        ·
          obtain ⟨m, rfl⟩ : ∃ m, c = some m := by
            cases c with
            | none => exact absurd (by show (-1 : Int32) < 0; decide) h2
            | some m => exact ⟨m, rfl⟩
          have hm := hc m rfl
          obtain ⟨p1, p2, p3, p4⟩ := hq m hm
          rw [lk] at hw
          refine gi_ild hC dX2_link_24 rfl ?_
          refine gi_bipush hC (v := 10) dX2_link_26 (by decide) ?_
          refine gi_icmp_ge hC 85 dX2_link_28 (by decide) (fun h4 => ?_) (fun h4 => ?_)
          · exact absurd h4 (nI_ge (a := m) (b := 10) hm (by omega))
          ·
            refine gi_aldn hC dX2_link_31 rfl ?_
            refine gf_F_parent hC hk hi gw_82 dX2_link_32 ?_
            refine gi_ild hC dX2_link_35 rfl ?_
            refine gi_iald hC (gm_iU E hk hi 1 (by decide) (by decide)) (j := m) hm rfl (by first | decide | omega) dX2_link_37 ?_
            refine gi_ist_8 hC dX2_link_38 (by decide) ?_
            refine gi_aldn hC dX2_link_40 rfl ?_
            refine gf_F_edgeUp hC hk hi gw_83 dX2_link_41 ?_
            refine gi_ild hC dX2_link_44 rfl ?_
            refine gi_iald hC (gm_iU E hk hi 2 (by decide) (by decide)) (j := m) hm rfl (by first | decide | omega) dX2_link_46 ?_
            refine gi_ist_9 hC dX2_link_47 (by decide) ?_
            refine gi_aldn hC dX2_link_49 rfl ?_
            refine gf_F_parent hC hk hi gw_82 dX2_link_50 ?_
            refine gi_ild hC dX2_link_53 rfl ?_
            refine gi_ild hC dX2_link_55 rfl ?_
            refine gi_iast hC (gm_iU E hk hi 1 (by decide) (by decide)) (j := m) hm rfl (by first | decide | omega) dX2_link_57 ?_
            refine gi_aldn hC dX2_link_58 rfl ?_
            refine gf_F_edgeUp hC hk hi gw_83 dX2_link_59 ?_
            refine gi_ild hC dX2_link_62 rfl ?_
            refine gi_ild hC dX2_link_64 rfl ?_
            refine gi_iast hC (gm_iU E hk hi 2 (by decide) (by decide)) (j := m) hm rfl (by first | decide | omega) dX2_link_66 ?_
            refine gi_ild hC dX2_link_67 rfl ?_
            refine gi_ist_5 hC dX2_link_69 (by decide) ?_
            refine gi_ild hC dX2_link_71 rfl ?_
            refine gi_ist_6 hC dX2_link_73 (by decide) ?_
            refine gi_ild hC dX2_link_75 rfl ?_
            refine gi_ist_4 hC dX2_link_77 (by decide) ?_
            refine gi_iinc_7 hC dX2_link_79 (nI_1 i) (by decide) ?_
            refine gi_goto hC 12 dX2_link_82 (by decide) ?_
            rw [p1]
            refine ih (i + 1) _ (va_up q.1 m np, va_up q.2 m ne) (q.1 m) (some m) (q.2 m) _ _ _ (by omega) (gm_kp_tr hkp (gm_kp_tr (gm_kp_ar (Or.inl rfl)) (gm_kp_ar (Or.inr rfl)))) ?_ p2 hc p4 p3 hw
            intro j hj
            obtain ⟨q1, q2, q3, q4⟩ := hq j hj
            have e1 : (gm_ar (gm_ar σ2 (gm_P kk + 5 + 3 * ii + 1) m (oI np)) (gm_P kk + 5 + 3 * ii + 2) m y).2 (gm_P kk + 5 + 3 * ii + 1) j = upd (σ2.2 (gm_P kk + 5 + 3 * ii + 1)) m (oI np) j := by
              simp only [gm_ar]
              rw [va_up_ne _ _ (by omega), va_up_self]
            have e2 : (gm_ar (gm_ar σ2 (gm_P kk + 5 + 3 * ii + 1) m (oI np)) (gm_P kk + 5 + 3 * ii + 2) m y).2 (gm_P kk + 5 + 3 * ii + 2) j = upd (σ2.2 (gm_P kk + 5 + 3 * ii + 2)) m y j := by
              simp only [gm_ar]
              rw [va_up_self, va_up_ne _ _ (by omega)]
            rw [e1, e2]
            show _ = oI (va_up q.1 m np j) ∧ (∀ m2, va_up q.1 m np j = some m2 → m2 < 10) ∧ bm _ (fun i => decide (va_up q.2 m ne j = some i)) ∧ ∀ e2, va_up q.2 m ne j = some e2 → e2 < 24
            by_cases hjm : j = m
            · subst hjm
              rw [pk_us, pk_us, va_up_self, va_up_self]
              exact ⟨rfl, hnp, hy, hne⟩
            · rw [pk_un hjm, pk_un hjm, va_up_ne _ _ hjm, va_up_ne _ _ hjm]
              exact ⟨q1, q2, q3, q4⟩
  refine gi_ildn hC dX2_link_0 rfl ?_
  refine gi_ist_4 hC dX2_link_1 (by decide) ?_
  refine gi_ildn hC dX2_link_3 rfl ?_
  refine gi_ist_5 hC dX2_link_4 (by decide) ?_
  refine gi_ildn hC dX2_link_6 rfl ?_
  refine gi_ist_6 hC dX2_link_7 (by decide) ?_
  refine gi_const hC (v := 0) dX2_link_9 (by decide) ?_
  refine gi_ist_7 hC dX2_link_10 (by decide) ?_
  exact L 10 0 σ (par, eup) (some b) (some a) (some e) x _ _ rfl gm_kp_rf hp (fun m hm => by cases hm; exact hb) (fun m hm => by cases hm; exact ha) (fun m hm => by cases hm; exact he) hx rfl
