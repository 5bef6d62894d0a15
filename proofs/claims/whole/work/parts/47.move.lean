/-! THE REFERENCE: move, part, forest -/
theorem gp_fix_fit {U V : Nat → Nat} {k : Nat} {S fx : Nat → Prop} {p : Nat → Option Nat} (h : gp_fit U V k S) (hf : ∀ e, ¬ fx e) : gp_fix U V k S fx p := by
  obtain ⟨p2, h1, h2⟩ := h
  exact ⟨p2, h1, h2, fun e he => absurd he (hf e)⟩
theorem gp_fit_sub {U V : Nat → Nat} {k : Nat} {S T : Nat → Prop} (h : gp_fit U V k S) (hs : ∀ e, T e → S e) : gp_fit U V k T := by
  obtain ⟨p, h1, h2⟩ := h
  have hd : ∀ e, Decidable (T e) := fun e => Classical.propDecidable _
  refine ⟨fun e => if T e then p e else none, ⟨fun e i he => ?_, fun i hi => gf_sub (h1.2 i hi) (fun e he => ?_)⟩, fun e => ?_⟩
  · by_cases q : T e
    · simp only [if_pos q] at he; exact h1.1 e i he
    · simp only [if_neg q] at he; cases he
  · have he : (if T e then p e else none) = some i := he
    by_cases q : T e
    · rw [if_pos q] at he; exact he
    · rw [if_neg q] at he; cases he
  · by_cases q : T e
    · simp only [if_pos q]; exact ⟨fun _ => (h2 e).mp (hs e q), fun _ => q⟩
    · simp only [if_neg q]; exact ⟨fun z => absurd z q, fun z => absurd rfl z⟩
/-- the least numbers: no lesser one for e leaves a way to place the later ones -/
def LM (U V : Nat → Nat) (k : Nat) (H : Nat → Bool) (p : Nat → Option Nat) (m : Nat) : Prop := ∀ e, e < m → H e = true → ∀ f0 f, p e = some f0 → f < f0 → ¬ gp_fix U V k (fun x => H x = true) (fun x => (x < e ∧ H x = true) ∨ x = e) (va_up p e (some f))
theorem LM_cong {U V : Nat → Nat} {k m : Nat} {H : Nat → Bool} {p p2 : Nat → Option Nat} (h : LM U V k H p m) (hs : ∀ x, x < m → H x = true → p2 x = p x) : LM U V k H p2 m := by
  intro e he hH f0 f hp hf hx
  rw [hs e he hH] at hp
  refine h e he hH f0 f hp hf ?_
  obtain ⟨p3, c1, c2, c3⟩ := hx
  refine ⟨p3, c1, c2, fun x hx => ?_⟩
  rw [c3 x hx]
  by_cases q : x = e
  · subst q; rw [va_up_self, va_up_self]
  · rw [va_up_ne _ _ q, va_up_ne _ _ q]
    rcases hx with hx | hx
    · exact hs x (by omega) hx.2
    · exact absurd hx q
/-- the least numbers are these alone -/
theorem LM_uniq {U V : Nat → Nat} {k m : Nat} {H : Nat → Bool} {p p2 : Nat → Option Nat} (h : LM U V k H p m) (g : LM U V k H p2 m) (hok : gp_ok U V k p) (gok : gp_ok U V k p2) (hd : ∀ e, p e ≠ none ↔ H e = true) (gd : ∀ e, p2 e ≠ none ↔ H e = true) : ∀ e, e < m → p e = p2 e := by
  intro e
  induction e using Nat.strongRecOn with
  | ind e ih =>
    intro he
    by_cases hH : H e = true
    · have wit : ∀ (a b : Nat → Option Nat) (f : Nat), gp_ok U V k a → (∀ e, a e ≠ none ↔ H e = true) → (∀ x, x < e → a x = b x) → a e = some f → gp_fix U V k (fun x => H x = true) (fun x => (x < e ∧ H x = true) ∨ x = e) (va_up b e (some f)) := by
        intro a b f a1 a2 a3 a4
        refine ⟨a, a1, fun x => (a2 x).symm, fun x hx => ?_⟩
        by_cases q : x = e
        · subst q; rw [va_up_self]; exact a4
        · rw [va_up_ne _ _ q]
          rcases hx with hx | hx
          · exact a3 x hx.1
          · exact absurd hx q
      cases hp : p e with
      | none => exact absurd hp ((hd e).mpr hH)
      | some f1 =>
        cases hp2 : p2 e with
        | none => exact absurd hp2 ((gd e).mpr hH)
        | some f2 =>
          rcases Nat.lt_trichotomy f1 f2 with q | q | q
          · exact absurd (wit p p2 f1 hok hd (fun x hx => ih x hx (by omega)) hp) (g e he hH f2 f1 hp2 q)
          · rw [q]
          · exact absurd (wit p2 p f2 gok gd (fun x hx => (ih x hx (by omega)).symm) hp2) (h e he hH f1 f2 hp q)
    · cases hp : p e with
      | some f => exact absurd ((hd e).mp (by rw [hp]; exact fun z => by cases z)) hH
      | none =>
        cases hp2 : p2 e with
        | some f => exact absurd ((gd e).mp (by rw [hp2]; exact fun z => by cases z)) hH
        | none => rfl
/-- out of forest f goes j, in comes e -/
theorem gp_swap {U V : Nat → Nat} {k e f j : Nat} {p : Nat → Option Nat} (hok : gp_ok U V k p) (hf : f < k) (hj : p j = some f) (hej : e ≠ j) (hr : ¬ gh_in U V (fun v => gp_F p f v ∧ v ≠ j) e) : gp_ok U V k (va_up (va_up p e (some f)) j none) := by
  refine ⟨fun x i hx => ?_, fun i hi => ?_⟩
  · by_cases q : x = j
    · subst q; rw [va_up_self] at hx; cases hx
    · rw [va_up_ne _ _ q] at hx
      by_cases q2 : x = e
      · subst q2; rw [va_up_self] at hx; cases hx; exact hf
      · rw [va_up_ne _ _ q2] at hx; exact hok.1 x i hx
  · by_cases q : i = f
    · subst q
      refine gf_sub (gh_add (X := fun v => gp_F p i v ∧ v ≠ j) (gf_sub (hok.2 i hi) (fun x hx => hx.1)) hr) (fun x hx => ?_)
      have hx : va_up (va_up p e (some i)) j none x = some i := hx
      by_cases q1 : x = j
      · subst q1; rw [va_up_self] at hx; cases hx
      · rw [va_up_ne _ _ q1] at hx
        by_cases q2 : x = e
        · exact Or.inr q2
        · rw [va_up_ne _ _ q2] at hx; exact Or.inl ⟨hx, q1⟩
    · refine gf_sub (hok.2 i hi) (fun x hx => ?_)
      have hx : va_up (va_up p e (some f)) j none x = some i := hx
      by_cases q1 : x = j
      · subst q1; rw [va_up_self] at hx; cases hx
      · rw [va_up_ne _ _ q1] at hx
        by_cases q2 : x = e
        · subst q2; rw [va_up_self] at hx; cases hx; exact absurd rfl q
        · rw [va_up_ne _ _ q2] at hx; exact hx
set_option maxHeartbeats 4000000 in
set_option maxRecDepth 100000 in
theorem c_X4_move (l : Launch) (E : gm_E) (σ : gm_S) (U V : Nat → Nat) (hE : mE σ U V) (p : Nat → Option Nat) (hp : mP σ p) (fx : Nat → Bool) (hz9 : mZ σ 9 fx) (k : Nat) (hk : k < 7) (hok : gp_ok U V k p) (hd : ∀ e, p e ≠ none → e < 24) (hne : ∀ e, p e ≠ none → U e ≠ V e) (hfx : ∀ e, fx e = true → p e ≠ none) (e : Nat) (he : e < 24) (hpe : p e ≠ none) (hfe : fx e = false) (f : Nat) (hf : f < k) (hpf : p e ≠ some f) : gm_MI l E yX4_move (.code yX4_move cX4_move 8 (some .boolean) :: gw_T) { frames := 2, cells := 0, slots := 0, locals := 58 } [.ref (E.2.2 5), .int (nI e), .int (nI f), .int (nI k)] σ (fun r σ2 => gm_fr σ σ2 (fun _ _ => False) (fun y => 8 ≤ y ∧ y ≤ 14) ∧ ((r = 1 ∧ ∃ p2, mP σ2 p2 ∧ gp_ok U V k p2 ∧ (∀ x, p2 x ≠ none ↔ p x ≠ none) ∧ (∀ x, fx x = true → p2 x = p x) ∧ p2 e = some f ∧ mZ σ2 9 (fun x => fx x || decide (x = e))) ∨ (r = 0 ∧ mP σ2 p ∧ mZ σ2 9 fx ∧ ¬ gp_fix U V k (fun x => p x ≠ none) (fun x => fx x = true ∨ x = e) (va_up p e (some f))))) := by
  refine gm_enterI RX4 (by decide +kernel) rfl rfl (Nat.le_of_ble_eq_true rfl) (gm_c1_ok rfl) ?_
  intro X hC hR
  show gm_G X E 8 0 [some (.ref (E.2.2 5)), some (.int (nI e)), some (.int (nI f)), some (.int (nI k)), none, none, none, none] [] σ
  have hgz : wG p f e = gp_F p f := gh_eq fun x => ⟨fun h => h.2.1, fun h => ⟨hd x (by rw [show p x = some f from h]; exact fun q => by cases q), h, fun q => hpf (q ▸ h)⟩⟩
  have FIN : ∀ (g : Int32) (σ2 : gm_S) (w4 w5 w7 : Option Value), (g = 0 ∨ g = 1) → gm_fr σ σ2 (fun _ _ => False) (fun y => 8 ≤ y ∧ y ≤ 14) → mZ σ2 9 (fun x => fx x || decide (x = e)) → ((g = 1 ∧ ∃ p2, mP σ2 p2 ∧ gp_ok U V k p2 ∧ (∀ x, p2 x ≠ none ↔ p x ≠ none) ∧ (∀ x, fx x = true → p2 x = p x) ∧ p2 e = some f) ∨ (g = 0 ∧ mP σ2 p ∧ ¬ gp_fix U V k (fun x => p x ≠ none) (fun x => fx x = true ∨ x = e) (va_up p e (some f)))) → gm_G X E 8 170 [some (.ref (E.2.2 5)), some (.int (nI e)), some (.int (nI f)), some (.int (nI k)), w4, w5, some (.int g), w7] [] σ2 := by
    intro g σ2 w4 w5 w7 hg01 hfr hz hres
    refine gi_aldn hC dX4_move_170 rfl ?_
    refine gf_M_isFixed hC gw_321 dX4_move_171 ?_
    refine gi_ildn hC dX4_move_174 rfl ?_
    refine gi_ild hC dX4_move_175 rfl ?_
    refine gi_zast hC (gm_i9 E) he rfl hg01 (by decide) dX4_move_177 ?_
    refine gi_ild hC dX4_move_178 rfl ?_
    have hmp : ∀ q, mP σ2 q → mP (gm_ar σ2 9 e g) q := fun q h x hx => by rw [gm_ar_r _ _ (by decide)]; exact h x hx
    have hfr2 : gm_fr σ (gm_ar σ2 9 e g) (fun _ _ => False) (fun y => 8 ≤ y ∧ y ≤ 14) := gm_fr_tr hfr (gm_fr_ar (by decide))
    rcases hres with ⟨rfl, p2, c1, c2, c3, c4, c5⟩ | ⟨rfl, c1, c2⟩
    · refine hR _ _ _ _ (by decide +kernel) ⟨hfr2, Or.inl ⟨rfl, p2, hmp p2 c1, c2, c3, c4, c5, fun x hx => ?_⟩⟩ dX4_move_180
      by_cases q : x = e
      · subst q; rw [gm_ar_2]; simp
      · rw [gm_ar_n _ _ (fun z => q z.2)]; exact hz x hx
    · refine hR _ _ _ _ (by decide +kernel) ⟨hfr2, Or.inr ⟨rfl, hmp p c1, fun x hx => ?_, c2⟩⟩ dX4_move_180
      by_cases q : x = e
      · subst q; rw [gm_ar_2, hfe]; rfl
      · rw [gm_ar_n _ _ (fun z => q z.2), hz x hx]; simp [q]
  have RS : ∀ m i (σ2 : gm_S) (w4 w5 : Option Value), i + m = 24 → gm_fr σ σ2 (fun _ _ => False) (fun y => 8 ≤ y ∧ y ≤ 14) → mZ σ2 9 (fun x => fx x || decide (x = e)) → (∀ x, x < 24 → σ2.2 14 x = oI (p x)) → (∀ x, x < i → σ2.2 8 x = oI (p x)) → ¬ gp_fix U V k (fun x => p x ≠ none) (fun x => fx x = true ∨ x = e) (va_up p e (some f)) → gm_G X E 8 143 [some (.ref (E.2.2 5)), some (.int (nI e)), some (.int (nI f)), some (.int (nI k)), w4, w5, some (.int 0), some (.int (nI i))] [] σ2 := by
    intro m
    induction m with
    | zero =>
      intro i σ2 w4 w5 hi0 hfr hz hs h8 hno
      have hi0 : i = 24 := by omega
      subst hi0
      refine gi_ild hC dX4_move_143 rfl ?_
      refine gi_bipush hC (v := 24) dX4_move_145 (by decide) ?_
      refine gi_icmp_ge hC 170 dX4_move_147 (by decide) (fun h1 => ?_) (fun h1 => ?_)
      · exact FIN 0 σ2 _ _ _ (Or.inl rfl) hfr hz (Or.inr ⟨rfl, fun x hx => ⟨h8 x hx, (hp x hx).2⟩, hno⟩)
      · exact absurd (Int32.le_refl _) h1
    | succ m ih =>
      intro i σ2 w4 w5 hi0 hfr hz hs h8 hno
      have hsi := hs i (by omega)
      refine gi_ild hC dX4_move_143 rfl ?_
      refine gi_bipush hC (v := 24) dX4_move_145 (by decide) ?_
      refine gi_icmp_ge hC 170 dX4_move_147 (by decide) (fun h1 => ?_) (fun h1 => ?_)
      · exact absurd h1 (nI_ge (a := i) (b := 24) (by omega) (by omega))
      ·
        refine gi_aldn hC dX4_move_150 rfl ?_
        refine gf_M_forestOf hC gw_320 dX4_move_151 ?_
        refine gi_ild hC dX4_move_154 rfl ?_
        refine gi_aldn hC dX4_move_156 rfl ?_
        refine gf_M_saved hC gw_326 dX4_move_157 ?_
        refine gi_ild hC dX4_move_160 rfl ?_
        refine gi_iald hC (gm_i14 E) (j := i) (by omega) rfl (by first | decide | omega) dX4_move_162 ?_
        rw [hsi]
        refine gi_iast hC (gm_i8 E) (j := i) (by omega) rfl (by first | decide | omega) dX4_move_163 ?_
        refine gi_iinc_7 hC dX4_move_164 (nI_1 i) (by decide) ?_
        refine gi_goto hC 143 dX4_move_167 (by decide) ?_
        exact ih (i + 1) _ _ _ (by omega) (gm_fr_tr hfr (gm_fr_ar (by decide))) (fun x hx => by rw [gm_ar_r _ _ (by decide)]; exact hz x hx) (fun x hx => by rw [gm_ar_r _ _ (by decide)]; exact hs x hx) (fun x hx => by
          by_cases q : x = i
          · subst q; exact gm_ar_2 _ _ _ _
          · rw [gm_ar_n _ _ (fun z => q z.2)]; exact h8 x (by omega)) hno
  have AF : ∀ (y : Int32) (lo : Option Nat) (σ2 : gm_S) (w6 w7 : Option Value), gm_fr σ σ2 (fun _ _ => False) (fun y => 8 ≤ y ∧ y ≤ 14) → mE σ2 U V → mP σ2 (va_up p e (some f)) → mZ σ2 9 (fun x => fx x || decide (x = e)) → (∀ x, x < 24 → σ2.2 14 x = oI (p x)) → ((y = 0 ∧ lo = none ∧ ¬ gq_con U V (gp_F p f) (U e) (V e)) ∨ (y ≠ 0 ∧ ∃ S : Nat → Bool, (∀ x, S x = true → gp_F p f x) ∧ gq_con U V (fun x => S x = true) (U e) (V e) ∧ (∀ x, S x = true → ¬ gq_con U V (fun v => gp_F p f v ∧ v ≠ x) (U e) (V e)) ∧ ((lo = none ∧ ∀ x, S x = true → fx x = true) ∨ ∃ j, lo = some j ∧ S j = true ∧ fx j = false))) → gm_G X E 8 101 [some (.ref (E.2.2 5)), some (.int (nI e)), some (.int (nI f)), some (.int (nI k)), some (.int y), some (.int (oI lo)), w6, w7] [] σ2 := by
    intro y lo σ2 w6 w7 hfr hE2 hp2 hz hs hres
    rcases hres with ⟨rfl, rfl, hno⟩ | ⟨hy0, S, s1, s2, s3, s4⟩
    ·
      refine gi_ild hC dX4_move_101 rfl ?_
      refine gi_if_ne hC 110 dX4_move_103 (by decide) (fun h1 => ?_) (fun h1 => ?_)
      · exact absurd rfl h1
      ·
        refine gi_const hC (v := 1) dX4_move_106 (by decide) ?_
        refine gi_goto hC 111 dX4_move_107 (by decide) ?_
        refine gi_ist_6 hC dX4_move_111 (by decide) ?_
        refine gi_ild hC dX4_move_113 rfl ?_
        refine gi_if_lt hC 135 dX4_move_115 (by decide) (fun h2 => ?_) (fun h2 => ?_)
        ·
          refine gi_ild hC dX4_move_135 rfl ?_
          refine gi_if_ne hC 170 dX4_move_137 (by decide) (fun h3 => ?_) (fun h3 => ?_)
          ·
            refine FIN 1 σ2 _ _ _ (Or.inr rfl) hfr hz (Or.inl ⟨rfl, va_up p e (some f), hp2, gp_mv_ok hok hf hno, fun x => ?_, fun x hx => ?_, va_up_self _ _ _⟩)
            · by_cases q : x = e
              · subst q; rw [va_up_self]; exact ⟨fun _ => hpe, fun _ z => by cases z⟩
              · rw [va_up_ne _ _ q]
            · exact va_up_ne _ _ (fun q => by rw [q, hfe] at hx; cases hx)
          · exact absurd h3 (by decide)
        · exact absurd (by show (-1 : Int32) < 0; decide) h2
    ·
      refine gi_ild hC dX4_move_101 rfl ?_
      refine gi_if_ne hC 110 dX4_move_103 (by decide) (fun h1 => ?_) (fun h1 => ?_)
      ·
        refine gi_const hC (v := 0) dX4_move_110 (by decide) ?_
        refine gi_ist_6 hC dX4_move_111 (by decide) ?_
        rcases s4 with ⟨rfl, s5⟩ | ⟨j, rfl, s5, s6⟩
        ·
          refine gi_ild hC dX4_move_113 rfl ?_
          refine gi_if_lt hC 135 dX4_move_115 (by decide) (fun h2 => ?_) (fun h2 => ?_)
          ·
            refine gi_ild hC dX4_move_135 rfl ?_
            refine gi_if_ne hC 170 dX4_move_137 (by decide) (fun h3 => ?_) (fun h3 => ?_)
            · exact absurd rfl h3
            ·
              refine gi_const hC (v := 0) dX4_move_140 (by decide) ?_
              refine gi_ist_7 hC dX4_move_141 (by decide) ?_
              refine RS 24 0 σ2 _ _ rfl hfr hz hs (fun x hx => absurd hx (Nat.not_lt_zero x)) ?_
              rintro ⟨p3, c1, c2, c3⟩
              have he3 : p3 e = some f := by rw [c3 e (Or.inr rfl), va_up_self]
              refine c1.2 f hf e he3 (gq_mono (fun x hx => ⟨?_, fun q => ?_⟩) s2)
              · have hxe : x ≠ e := fun q => hpf (q ▸ s1 x hx)
                show p3 x = some f
                rw [c3 x (Or.inl (s5 x hx)), va_up_ne _ _ hxe]
                exact s1 x hx
              · exact hpf (q ▸ s1 x hx)
          · exact absurd (by show (-1 : Int32) < 0; decide) h2
        ·
          have hpj : p j = some f := s1 j s5
          have hj24 : j < 24 := hd j (by rw [hpj]; exact fun q => by cases q)
          have hej : e ≠ j := fun q => hpf (q ▸ hpj)
          have hok2 := gp_swap hok hf hpj hej (s3 j s5)
          have hdom : ∀ x, va_up (va_up p e (some f)) j none x ≠ none ∨ x = j ↔ p x ≠ none := by
            intro x
            by_cases q : x = j
            · subst q; rw [va_up_self, hpj]; simp
            · rw [va_up_ne _ _ q]
              by_cases q2 : x = e
              · subst q2; rw [va_up_self]; simp [q, hpe]
              · rw [va_up_ne _ _ q2]; simp [q]
          have hdm : ∀ x, va_up (va_up p e (some f)) j none x ≠ none → p x ≠ none := fun x hx => (hdom x).mp (Or.inl hx)
          refine gi_ild hC dX4_move_113 rfl ?_
          refine gi_if_lt hC 135 dX4_move_115 (by decide) (fun h2 => ?_) (fun h2 => ?_)
          · exact absurd h2 (nI_pos (n := j) (by omega))
          ·
            refine gi_aldn hC dX4_move_118 rfl ?_
            refine gf_M_forestOf hC gw_320 dX4_move_119 ?_
            refine gi_ild hC dX4_move_122 rfl ?_
            refine gi_const hC (v := -1) dX4_move_124 (by decide) ?_
            refine gi_iast hC (gm_i8 E) (j := j) hj24 rfl (by first | decide | omega) dX4_move_125 ?_
            refine gi_aldn hC dX4_move_126 rfl ?_
            refine gi_ild hC dX4_move_127 rfl ?_
            refine gi_ildn hC dX4_move_129 rfl ?_
            have hp3 : mP (gm_ar σ2 8 j (-1)) (va_up (va_up p e (some f)) j none) := by
              intro x hx
              by_cases q : x = j
              · subst q; rw [gm_ar_2, va_up_self]; exact ⟨rfl, fun i hi => by cases hi⟩
              · rw [gm_ar_n _ _ (fun z => q z.2), va_up_ne _ _ q]; exact hp2 x hx
            have hE3 : mE (gm_ar σ2 8 j (-1)) U V := fun x hx => by rw [gm_ar_r _ _ (by decide)]; exact hE2 x hx
            have hz3 : mZ (gm_ar σ2 8 j (-1)) 9 (fun x => fx x || decide (x = e)) := fun x hx => by rw [gm_ar_r _ _ (by decide)]; exact hz x hx
            have hs3 : ∀ x, x < 24 → (gm_ar σ2 8 j (-1)).2 14 x = oI (p x) := fun x hx => by rw [gm_ar_r _ _ (by decide)]; exact hs x hx
            have hfr3 : gm_fr σ (gm_ar σ2 8 j (-1)) (fun _ _ => False) (fun y => 8 ≤ y ∧ y ≤ 14) := gm_fr_tr hfr (gm_fr_ar (by decide))
            generalize gm_ar σ2 8 j (-1) = σ3 at hp3 hE3 hz3 hs3 hfr3 ⊢
            have hfx2 : ∀ x, (fx x || decide (x = e)) = true → va_up (va_up p e (some f)) j none x ≠ none := by
              intro x hx
              simp only [Bool.or_eq_true, decide_eq_true_eq] at hx
              have hxj : x ≠ j := fun q => by
                rcases hx with hx | hx
                · rw [q, s6] at hx; cases hx
                · exact hej (hx.symm.trans q)
              rw [va_up_ne _ _ hxj]
              by_cases q2 : x = e
              · subst q2; rw [va_up_self]; exact fun z => by cases z
              · rw [va_up_ne _ _ q2]
                exact hfx x (hx.elim id (fun z => absurd z q2))
            refine gk_VI (n := 2) hC (fun l => c_X4_place l E σ3 U V hE3 _ hp3 (fun x => fx x || decide (x = e)) hz3 k hk hok2 (fun x hx => hd x (hdm x hx)) j hj24 (va_up_self _ _ _) (fun x hx => hne x ((hdom x).mp hx)) hfx2) (gm_o4 E) rfl (gw_V gw_416 gw_418 gw_16 gw_28 gw_419) rfl ⟨rfl, rfl⟩ rfl (by decide +kernel) ⟨by decide, by decide⟩ (Nat.le_of_ble_eq_true rfl) dX4_move_130 (fun r σ4 h4 => ?_)
            obtain ⟨h4f, h4⟩ := h4
            have hfr4 : gm_fr σ σ4 (fun _ _ => False) (fun y => 8 ≤ y ∧ y ≤ 14) := gm_fr_tr hfr3 (gm_fr_mono h4f (fun _ _ q => q) (fun x hx => by omega))
            have hz4 : mZ σ4 9 (fun x => fx x || decide (x = e)) := fun x hx => by rw [h4f.2 9 (by decide)]; exact hz3 x hx
            have hs4 : ∀ x, x < 24 → σ4.2 14 x = oI (p x) := fun x hx => by rw [h4f.2 14 (by decide)]; exact hs3 x hx
            rcases h4 with ⟨rfl, p4, b1, b2, b3, b4⟩ | ⟨rfl, b1, b2⟩
            ·
              refine gi_ist_6 hC dX4_move_133 (by decide) ?_
              refine gi_ild hC dX4_move_135 rfl ?_
              refine gi_if_ne hC 170 dX4_move_137 (by decide) (fun h5 => ?_) (fun h5 => ?_)
              ·
                refine FIN 1 σ4 _ _ _ (Or.inr rfl) hfr4 hz4 (Or.inl ⟨rfl, p4, b1, b2, fun x => (b3 x).trans (hdom x), fun x hx => ?_, ?_⟩)
                · have hxj : x ≠ j := fun q => by rw [q, s6] at hx; cases hx
                  have hxe : x ≠ e := fun q => by rw [q, hfe] at hx; cases hx
                  rw [b4 x (by simp [hx]), va_up_ne _ _ hxj, va_up_ne _ _ hxe]
                · rw [b4 e (by simp), va_up_ne _ _ hej, va_up_self]
              · exact absurd h5 (by decide)
            ·
              refine gi_ist_6 hC dX4_move_133 (by decide) ?_
              refine gi_ild hC dX4_move_135 rfl ?_
              refine gi_if_ne hC 170 dX4_move_137 (by decide) (fun h5 => ?_) (fun h5 => ?_)
              · exact absurd rfl h5
              ·
                refine gi_const hC (v := 0) dX4_move_140 (by decide) ?_
                refine gi_ist_7 hC dX4_move_141 (by decide) ?_
                refine RS 24 0 σ4 _ _ rfl hfr4 hz4 hs4 (fun x hx => absurd hx (Nat.not_lt_zero x)) (fun hx => b2 ?_)
                obtain ⟨p5, c1, c2, c3⟩ := hx
                refine ⟨p5, c1, fun x => (hdom x).trans (c2 x), fun x hx => ?_⟩
                simp only [Bool.or_eq_true, decide_eq_true_eq] at hx
                have hxj : x ≠ j := fun q => by
                  rcases hx with hx | hx
                  · rw [q, s6] at hx; cases hx
                  · exact hej (hx.symm.trans q)
                rw [c3 x hx, va_up_ne _ _ hxj]
      · exact absurd h1 hy0
  have LS : ∀ m i (lo : Option Nat) (y : Int32) (S : Nat → Bool) (σ2 : gm_S) (w7 : Option Value), i + m = 24 → bm y S → gm_fr σ σ2 (fun _ _ => False) (fun y => 8 ≤ y ∧ y ≤ 14) → mE σ2 U V → mP σ2 (va_up p e (some f)) → mZ σ2 9 (fun x => fx x || decide (x = e)) → (∀ x, x < 24 → σ2.2 14 x = oI (p x)) → S e = false → ((lo = none ∧ ∀ x, x < i → S x = true → fx x = true) ∨ ∃ j, lo = some j ∧ j < 24 ∧ S j = true ∧ fx j = false) → ((y = 0 ∧ ¬ gq_con U V (gp_F p f) (U e) (V e)) ∨ (y ≠ 0 ∧ (∀ x, S x = true → gp_F p f x) ∧ gq_con U V (fun x => S x = true) (U e) (V e) ∧ (∀ x, S x = true → ¬ gq_con U V (fun v => gp_F p f v ∧ v ≠ x) (U e) (V e)))) → gm_G X E 8 58 [some (.ref (E.2.2 5)), some (.int (nI e)), some (.int (nI f)), some (.int (nI k)), some (.int y), some (.int (oI lo)), some (.int (nI i)), w7] [] σ2 := by
    intro m
    induction m with
    | zero =>
      intro i lo y S σ2 w7 hi0 hy hfr hE2 hp2 hz hs hSe hlo hres
      have hi0 : i = 24 := by omega
      subst hi0
      refine gi_ild hC dX4_move_58 rfl ?_
      refine gi_bipush hC (v := 24) dX4_move_60 (by decide) ?_
      refine gi_icmp_ge hC 101 dX4_move_62 (by decide) (fun h1 => ?_) (fun h1 => ?_)
      ·
        refine AF y lo σ2 _ _ hfr hE2 hp2 hz hs ?_
        rcases hres with ⟨rfl, hno⟩ | ⟨hy0, s1, s2, s3⟩
        · refine Or.inl ⟨rfl, ?_, hno⟩
          rcases hlo with ⟨q, -⟩ | ⟨j, q1, q2, q3, q4⟩
          · exact q
          · have := hy j (by omega)
            rw [b_0, q3] at this
            cases this
        · refine Or.inr ⟨hy0, S, s1, s2, s3, ?_⟩
          rcases hlo with ⟨q, q2⟩ | ⟨j, q1, q2, q3, q4⟩
          · exact Or.inl ⟨q, fun x hx => q2 x (hd x (by rw [show p x = some f from s1 x hx]; exact fun z => by cases z)) hx⟩
          · exact Or.inr ⟨j, q1, q3, q4⟩
      · exact absurd (Int32.le_refl _) h1
    | succ m ih =>
      intro i lo y S σ2 w7 hi0 hy hfr hE2 hp2 hz hs hSe hlo hres
      have hzi := hz i (by omega)
      have N : (S i = true → fx i = true) → gm_G X E 8 91 [some (.ref (E.2.2 5)), some (.int (nI e)), some (.int (nI f)), some (.int (nI k)), some (.int y), some (.int (oI lo)), some (.int (nI i)), w7] [] σ2 := by
        intro hN
        refine gi_ild hC dX4_move_91 rfl ?_
        refine gi_ist_5 hC dX4_move_93 (by decide) ?_
        refine gi_iinc_6 hC dX4_move_95 (nI_1 i) (by decide) ?_
        refine gi_goto hC 58 dX4_move_98 (by decide) ?_
        refine ih (i + 1) lo y S σ2 _ (by omega) hy hfr hE2 hp2 hz hs hSe (hlo.elim (fun q => Or.inl ⟨q.1, fun x hx hxS => ?_⟩) Or.inr) hres
        by_cases z : x = i
        · subst z; exact hN hxS
        · exact q.2 x (by omega) hxS
      refine gi_ild hC dX4_move_58 rfl ?_
      refine gi_bipush hC (v := 24) dX4_move_60 (by decide) ?_
      refine gi_icmp_ge hC 101 dX4_move_62 (by decide) (fun h1 => ?_) (fun h1 => ?_)
      · exact absurd h1 (nI_ge (a := i) (b := 24) (by omega) (by omega))
      ·
        refine gi_ild hC dX4_move_65 rfl ?_
        refine gi_ild hC dX4_move_67 rfl ?_
        refine gi_ishr hC dX4_move_69 ?_
        refine gi_const hC (v := 1) dX4_move_70 (by decide) ?_
        refine gi_iand hC dX4_move_71 ?_
        refine gi_const hC (v := 1) dX4_move_72 (by decide) ?_
        rw [bm_tst hy (by omega)]
        refine gi_icmp_ne hC 91 dX4_move_73 (by decide) (fun h2 => ?_) (fun h2 => ?_)
        · exact N (fun q => absurd (by rw [if_pos q]) h2)
        ·
          have hSi : S i = true := by
            cases hb : S i
            · rw [hb] at h2; exact absurd h2 (by decide)
            · rfl
          have hie : i ≠ e := fun q => by rw [q, hSe] at hSi; cases hSi
          refine gi_aldn hC dX4_move_76 rfl ?_
          refine gf_M_isFixed hC gw_321 dX4_move_77 ?_
          refine gi_ild hC dX4_move_80 rfl ?_
          refine gi_zald hC (gm_i9 E) (j := i) (by omega) rfl (by first | decide | omega) dX4_move_82 ?_
          rw [hzi]
          refine gi_if_ne hC 91 dX4_move_83 (by decide) (fun h3 => ?_) (fun h3 => ?_)
          · exact N (fun _ => by
            cases hb : fx i
            · simp [hb, hie] at h3
            · rfl)
          ·
            have hfi : fx i = false := by
              cases hb : fx i
              · rfl
              · simp [hb] at h3
            refine gi_ild hC dX4_move_86 rfl ?_
            refine gi_goto hC 93 dX4_move_88 (by decide) ?_
            refine gi_ist_5 hC dX4_move_93 (by decide) ?_
            refine gi_iinc_6 hC dX4_move_95 (nI_1 i) (by decide) ?_
            refine gi_goto hC 58 dX4_move_98 (by decide) ?_
            exact ih (i + 1) (some i) y S σ2 _ (by omega) hy hfr hE2 hp2 hz hs hSe (Or.inr ⟨i, rfl, by omega, hSi, hfi⟩) hres
  have SV : ∀ m i (σ2 : gm_S) (w5 w6 w7 : Option Value), i + m = 24 → gm_fr σ σ2 (fun _ _ => False) (fun y => 8 ≤ y ∧ y ≤ 14) → (∀ y, y ≠ 14 → σ2.2 y = σ.2 y) → (∀ x, x < i → σ2.2 14 x = oI (p x)) → gm_G X E 8 3 [some (.ref (E.2.2 5)), some (.int (nI e)), some (.int (nI f)), some (.int (nI k)), some (.int (nI i)), w5, w6, w7] [] σ2 := by
    intro m
    induction m with
    | zero =>
      intro i σ2 w5 w6 w7 hi0 hfr hro hs
      have hi0 : i = 24 := by omega
      subst hi0
      have hE2 : mE σ2 U V := fun x hx => by rw [hro 6 (by decide)]; exact hE x hx
      have hp2 : mP σ2 p := fun x hx => by rw [hro 8 (by decide)]; exact hp x hx
      have hz2 : mZ σ2 9 fx := fun x hx => by rw [hro 9 (by decide)]; exact hz9 x hx
      refine gi_ild hC dX4_move_3 rfl ?_
      refine gi_bipush hC (v := 24) dX4_move_5 (by decide) ?_
      refine gi_icmp_ge hC 30 dX4_move_7 (by decide) (fun h1 => ?_) (fun h1 => ?_)
      ·
        refine gi_aldn hC dX4_move_30 rfl ?_
        refine gi_ildn hC dX4_move_31 rfl ?_
        refine gi_ildn hC dX4_move_32 rfl ?_
        refine gk_VI (n := 2) hC (fun l => c_X4_wayIn l E σ2 U V hE2 p hp2 f e (by omega) he (hne e hpe) (by rw [hgz]; exact hok.2 f hf)) (gm_o4 E) rfl (gw_V gw_420 gw_422 gw_17 gw_28 gw_423) rfl ⟨rfl, rfl⟩ rfl (by decide +kernel) ⟨by decide, by decide⟩ (Nat.le_of_ble_eq_true rfl) dX4_move_33 (fun y σ3 h3 => ?_)
        obtain ⟨h3f, h3⟩ := h3
        rw [hgz] at h3
        have hr3 : ∀ y, y ≠ 13 → σ3.2 y = σ2.2 y := fun y hy => h3f.2 y hy
        refine gi_ist_4 hC dX4_move_36 (by decide) ?_
        refine gi_aldn hC dX4_move_38 rfl ?_
        refine gf_M_forestOf hC gw_320 dX4_move_39 ?_
        refine gi_ildn hC dX4_move_42 rfl ?_
        refine gi_ildn hC dX4_move_43 rfl ?_
        refine gi_iast hC (gm_i8 E) he rfl (by first | decide | omega) dX4_move_44 ?_
        refine gi_aldn hC dX4_move_45 rfl ?_
        refine gf_M_isFixed hC gw_321 dX4_move_46 ?_
        refine gi_ildn hC dX4_move_49 rfl ?_
        refine gi_const hC (v := 1) dX4_move_50 (by decide) ?_
        refine gi_zast hC (gm_i9 E) he rfl (Or.inr rfl) (by decide) dX4_move_51 ?_
        refine gi_const hC (v := -1) dX4_move_52 (by decide) ?_
        refine gi_ist_5 hC dX4_move_53 (by decide) ?_
        refine gi_const hC (v := 0) dX4_move_55 (by decide) ?_
        refine gi_ist_6 hC dX4_move_56 (by decide) ?_
        have hfr4 : gm_fr σ (gm_ar (gm_ar σ3 8 e (nI f)) 9 e 1) (fun _ _ => False) (fun y => 8 ≤ y ∧ y ≤ 14) := gm_fr_tr hfr (gm_fr_tr (gm_fr_mono h3f (fun _ _ q => q) (fun x hx => by omega)) (gm_fr_tr (gm_fr_ar (by decide)) (gm_fr_ar (by decide))))
        have hE4 : mE (gm_ar (gm_ar σ3 8 e (nI f)) 9 e 1) U V := fun x hx => by rw [gm_ar_r _ _ (by decide), gm_ar_r _ _ (by decide), hr3 6 (by decide)]; exact hE2 x hx
        have hp4 : mP (gm_ar (gm_ar σ3 8 e (nI f)) 9 e 1) (va_up p e (some f)) := fun x hx => by
          rw [gm_ar_r _ _ (by decide)]
          by_cases q : x = e
          · subst q; rw [gm_ar_2, va_up_self]; exact ⟨rfl, fun i hi => by cases hi; omega⟩
          · rw [gm_ar_n _ _ (fun z => q z.2), va_up_ne _ _ q, hr3 8 (by decide)]; exact hp2 x hx
        have hz4 : mZ (gm_ar (gm_ar σ3 8 e (nI f)) 9 e 1) 9 (fun x => fx x || decide (x = e)) := fun x hx => by
          by_cases q : x = e
          · subst q; rw [gm_ar_2]; simp
          · rw [gm_ar_n _ _ (fun z => q z.2), gm_ar_r _ _ (by decide), hr3 9 (by decide), hz2 x hx]; simp [q]
        have hs4 : ∀ x, x < 24 → (gm_ar (gm_ar σ3 8 e (nI f)) 9 e 1).2 14 x = oI (p x) := fun x hx => by rw [gm_ar_r _ _ (by decide), gm_ar_r _ _ (by decide), hr3 14 (by decide)]; exact hs x hx
        rcases h3 with ⟨rfl, hno⟩ | ⟨S, s0, s1, s2, s3, s4⟩
        · exact LS 24 0 none 0 (fun _ => false) _ _ rfl bm_0 hfr4 hE4 hp4 hz4 hs4 rfl (Or.inl ⟨rfl, fun x hx => absurd hx (Nat.not_lt_zero x)⟩) (Or.inl ⟨rfl, hno⟩)
        · have hSe : S e = false := by
            cases hb : S e
            · rfl
            · exact absurd (s2 e hb) hpf
          exact LS 24 0 none y S _ _ rfl s0 hfr4 hE4 hp4 hz4 hs4 hSe (Or.inl ⟨rfl, fun x hx => absurd hx (Nat.not_lt_zero x)⟩) (Or.inr ⟨s1, s2, s3, s4⟩)
      · exact absurd (Int32.le_refl _) h1
    | succ m ih =>
      intro i σ2 w5 w6 w7 hi0 hfr hro hs
      have hpi := (hp i (by omega)).1
      refine gi_ild hC dX4_move_3 rfl ?_
      refine gi_bipush hC (v := 24) dX4_move_5 (by decide) ?_
      refine gi_icmp_ge hC 30 dX4_move_7 (by decide) (fun h1 => ?_) (fun h1 => ?_)
      · exact absurd h1 (nI_ge (a := i) (b := 24) (by omega) (by omega))
      ·
        refine gi_aldn hC dX4_move_10 rfl ?_
        refine gf_M_saved hC gw_326 dX4_move_11 ?_
        refine gi_ild hC dX4_move_14 rfl ?_
        refine gi_aldn hC dX4_move_16 rfl ?_
        refine gf_M_forestOf hC gw_320 dX4_move_17 ?_
        refine gi_ild hC dX4_move_20 rfl ?_
        refine gi_iald hC (gm_i8 E) (j := i) (by omega) rfl (by first | decide | omega) dX4_move_22 ?_
        rw [hro 8 (by decide), hpi]
        refine gi_iast hC (gm_i14 E) (j := i) (by omega) rfl (by first | decide | omega) dX4_move_23 ?_
        refine gi_iinc_4 hC dX4_move_24 (nI_1 i) (by decide) ?_
        refine gi_goto hC 3 dX4_move_27 (by decide) ?_
        exact ih (i + 1) _ _ _ _ (by omega) (gm_fr_tr hfr (gm_fr_ar (by decide))) (fun y hy => by rw [gm_ar_r _ _ hy]; exact hro y hy) (fun x hx => by
          by_cases q : x = i
          · subst q; exact gm_ar_2 _ _ _ _
          · rw [gm_ar_n _ _ (fun z => q z.2)]; exact hs x (by omega))
  refine gi_const hC (v := 0) dX4_move_0 (by decide) ?_
  refine gi_ist_4 hC dX4_move_1 (by decide) ?_
  exact SV 24 0 σ _ _ _ rfl gm_fr_rf (fun _ _ => rfl) (fun x hx => absurd hx (Nat.not_lt_zero x))
