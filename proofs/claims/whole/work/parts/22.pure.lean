/-! A PACKING: pure words -/
abbrev pq : Type := (Nat → Option Nat) × (Nat → Nat → Option Nat) × (Nat → Nat → Option Nat)
def pk_rep (σ : gm_S) (k : Nat) (q : pq) : Prop := (∀ e, e < 24 → σ.2 (gm_P k + 1) e = oI (q.1 e) ∧ ∀ i, q.1 e = some i → i < k) ∧ ∀ i, i < k → fr_rep σ (gm_P k + 5 + 3 * i) (q.2.1 i) (q.2.2 i)
/-- the ends of the edges, as the graph's rows have them -/
def gL (σ : gm_S) (U V : Nat → Nat) : Prop := ∀ e, e < 24 → σ.2 2 e = nI (U e) ∧ σ.2 3 e = nI (V e) ∧ U e < 10 ∧ V e < 10
def pq_put (U V : Nat → Nat) (q : pq) (e : Nat) (t : Option Nat) : pq := match t with
  | none => q
  | some f => (va_up q.1 e (some f), va_up q.2.1 f (lk 10 (q.2.1 f, q.2.2 f) (some (V e)) (some (U e)) (some e)).1, va_up q.2.2 f (lk 10 (q.2.1 f, q.2.2 f) (some (V e)) (some (U e)) (some e)).2)
def pq_rem (q : pq) (e : Nat) : pq := match q.1 e with
  | none => q
  | some f => (va_up q.1 e none, va_up q.2.1 f (ul (q.2.2 f) (q.2.1 f) e), va_up q.2.2 f (ul (q.2.2 f) (q.2.2 f) e))
/-- the rows of a packing that its moves write: place, and all rows of its forests -/
def pk_R (k : Nat) (y : Nat) : Prop := y = gm_P k + 1 ∨ (gm_P k + 5 ≤ y ∧ y < gm_P k + 30)
theorem fr_cong {σ σ2 : gm_S} {x : Nat} {par eup : Nat → Option Nat} (h1 : σ2.2 (x + 1) = σ.2 (x + 1)) (h2 : σ2.2 (x + 2) = σ.2 (x + 2)) (h : fr_rep σ x par eup) : fr_rep σ2 x par eup := by
  intro j hj
  rw [h1, h2]
  exact h j hj
theorem gL_cong {σ σ2 : gm_S} {U V : Nat → Nat} (h1 : σ2.2 2 = σ.2 2) (h2 : σ2.2 3 = σ.2 3) (h : gL σ U V) : gL σ2 U V := by
  intro e he
  rw [h1, h2]
  exact h e he
theorem gm_kp_mono {σ σ2 : gm_S} {R T : Nat → Prop} (h : gm_kp σ σ2 R) (hs : ∀ y, R y → T y) : gm_kp σ σ2 T := ⟨h.1, fun y hy => h.2 y (fun z => hy (hs y z))⟩
theorem pk_R_lo {k y : Nat} (h : y < 20) : ¬ pk_R k y := fun q => by unfold pk_R gm_P at q; omega
theorem gL_kp {σ σ2 : gm_S} {U V : Nat → Nat} {k : Nat} (h : gm_kp σ σ2 (pk_R k)) (g : gL σ U V) : gL σ2 U V := gL_cong (h.2 2 (pk_R_lo (by decide))) (h.2 3 (pk_R_lo (by decide))) g
/-! the search: reached, queue, followers -/
abbrev sq : Type := (Nat → Bool) × List Nat × (Nat → Option Nat)
def sr_rep (σ : gm_S) (k : Nat) (s : sq) : Prop := bm (σ.1 (gm_P k) 6) s.1 ∧ σ.1 (gm_P k) 8 = nI s.2.1.length ∧ s.2.1.length ≤ 24 ∧ (∀ i e, s.2.1[i]? = some e → e < 24 ∧ σ.2 (gm_P k + 2) i = nI e) ∧ ∀ e, e < 24 → σ.2 (gm_P k + 3) e = oI (s.2.2 e) ∧ ∀ j, s.2.2 e = some j → j < 24
def rc_lp (S : Nat → Bool) (frm : Option Nat) : Nat → Nat → List Nat → (Nat → Option Nat) → List Nat × (Nat → Option Nat)
  | 0, _, q, f => (q, f)
  | n + 1, e, q, f => if S e = true ∧ q.length < 24 then rc_lp S frm n (e + 1) (q ++ [e]) (va_up f e frm) else rc_lp S frm n (e + 1) q f
def rc (S : Nat → Bool) (frm : Option Nat) (s : sq) : sq := (fun i => s.1 i || S i, rc_lp S frm 24 0 s.2.1 s.2.2)
theorem rc_lp_none (S : Nat → Bool) (frm : Option Nat) : ∀ n e q f, (∀ j, e ≤ j → j < e + n → S j = false) → rc_lp S frm n e q f = (q, f)
  | 0, _, _, _, _ => rfl
  | n + 1, e, q, f, h => by
    rw [rc_lp, if_neg (by rw [h e (Nat.le_refl e) (by omega)]; exact fun z => by cases z.1)]
    exact rc_lp_none S frm n (e + 1) q f (fun j h1 h2 => h j (by omega) (by omega))
def rf_lp (wy : Nat → Option (Nat → Bool)) (fx : Nat → Bool) (frm : Option Nat) : Nat → Nat → sq → Option Nat × sq
  | 0, _, s => (none, s)
  | n + 1, f, s => match wy f with
    | none => (some f, s)
    | some S => rf_lp wy fx frm n (f + 1) (rc (fun i => (S i && !fx i) && !s.1 i) frm s)
def wys (q : pq) (a b : Nat) : Nat → Option (Nat → Bool) := fun f => wm (q.2.1 f) (q.2.2 f) a b
def fl (k : Nat) (U V : Nat → Nat) (ps : Nat → Bool) (q : pq) (fx : Nat → Bool) : Nat → Nat → sq → Option (Option Nat × Nat) × sq
  | 0, _, s => (none, s)
  | n + 1, h, s => match s.2.1[h]? with
    | none => (none, s)
    | some e => if ps e = true then match rf_lp (wys q (U e) (V e)) fx (some e) k 0 s with
        | (some f, s2) => (some (some e, f), s2)
        | (none, s2) => fl k U V ps q fx n (h + 1) s2
      else fl k U V ps q fx n (h + 1) s
def fnd (k : Nat) (U V : Nat → Nat) (ps : Nat → Bool) (q : pq) (fx : Nat → Bool) (a b : Nat) (fol : Nat → Option Nat) : Option (Option Nat × Nat) × sq := match rf_lp (wys q a b) fx none k 0 (fun _ => false, [], fol) with
  | (some f, s) => (some (none, f), s)
  | (none, s) => fl k U V ps q fx 24 0 s
def tk (U V : Nat → Nat) (ps : Nat → Bool) (fol : Nat → Option Nat) : Nat → pq → Option Nat → Option Nat → pq × Option Nat
  | 0, q, _, t => (q, t)
  | _ + 1, q, none, t => (q, t)
  | n + 1, q, some m, t => if ps m = true then tk U V ps fol n (pq_put U V (pq_rem q m) m t) (fol m) (q.1 m) else (q, t)
def tkin (U V : Nat → Nat) (ps : Nat → Bool) (fol : Nat → Option Nat) (q : pq) (lm : Option Nat) (t e : Nat) : pq := pq_put U V (tk U V ps fol 24 q lm (some t)).1 e (tk U V ps fol 24 q lm (some t)).2
/-- what a search may write -/
def sr_F (k : Nat) (x j : Nat) : Prop := x = gm_P k ∧ (j = 6 ∨ j = 8 ∨ j = 10 ∨ j = 11)
def sr_R (k : Nat) (y : Nat) : Prop := y = gm_P k + 2 ∨ y = gm_P k + 3
def gm_fr (σ σ2 : gm_S) (F : Nat → Nat → Prop) (R : Nat → Prop) : Prop := (∀ x j, ¬ F x j → σ2.1 x j = σ.1 x j) ∧ ∀ y, ¬ R y → σ2.2 y = σ.2 y
theorem gm_fr_rf {σ : gm_S} {F : Nat → Nat → Prop} {R : Nat → Prop} : gm_fr σ σ F R := ⟨fun _ _ _ => rfl, fun _ _ => rfl⟩
theorem gm_fr_tr {σ σ2 σ3 : gm_S} {F : Nat → Nat → Prop} {R : Nat → Prop} (h : gm_fr σ σ2 F R) (g : gm_fr σ2 σ3 F R) : gm_fr σ σ3 F R := ⟨fun x j hx => (g.1 x j hx).trans (h.1 x j hx), fun y hy => (g.2 y hy).trans (h.2 y hy)⟩
theorem gm_fr_ar {σ : gm_S} {F : Nat → Nat → Prop} {R : Nat → Prop} {x j : Nat} {v : Int32} (h : R x) : gm_fr σ (gm_ar σ x j v) F R := ⟨fun _ _ _ => rfl, fun y hy => va_up_ne _ _ (fun e => hy (e ▸ h))⟩
theorem gm_sc_1 (σ : gm_S) (x j : Nat) (v : Int32) : (gm_sc σ x j v).1 x j = v := by simp [gm_sc, va_up, upd]
theorem gm_sc_n (σ : gm_S) {x j y i : Nat} (v : Int32) (h : ¬ (y = x ∧ i = j)) : (gm_sc σ x j v).1 y i = σ.1 y i := by
  by_cases hy : y = x
  · subst hy
    have hi : i ≠ j := fun e => h ⟨rfl, e⟩
    simp [gm_sc, va_up, upd, hi]
  · simp [gm_sc, va_up, hy]
theorem gm_sc_2 (σ : gm_S) (x j : Nat) (v : Int32) : (gm_sc σ x j v).2 = σ.2 := rfl
theorem gm_ar_1 (σ : gm_S) (x j : Nat) (v : Int32) : (gm_ar σ x j v).1 = σ.1 := rfl
theorem gm_ar_2 (σ : gm_S) (x j : Nat) (v : Int32) : (gm_ar σ x j v).2 x j = v := by simp [gm_ar, va_up, upd]
theorem gm_ar_n (σ : gm_S) {x j y i : Nat} (v : Int32) (h : ¬ (y = x ∧ i = j)) : (gm_ar σ x j v).2 y i = σ.2 y i := by
  by_cases hy : y = x
  · subst hy
    have hi : i ≠ j := fun e => h ⟨rfl, e⟩
    simp [gm_ar, va_up, upd, hi]
  · simp [gm_ar, va_up, hy]
theorem gm_ar_r (σ : gm_S) {x j y : Nat} (v : Int32) (h : y ≠ x) : (gm_ar σ x j v).2 y = σ.2 y := by simp [gm_ar, va_up, h]
theorem gm_fr_sc {σ : gm_S} {F : Nat → Nat → Prop} {R : Nat → Prop} {x j : Nat} {v : Int32} (h : F x j) : gm_fr σ (gm_sc σ x j v) F R := ⟨fun y i hy => gm_sc_n σ v (fun e => hy (by rw [e.1, e.2]; exact h)), fun _ _ => rfl⟩
theorem gm_fr_mono {σ σ2 : gm_S} {F F2 : Nat → Nat → Prop} {R R2 : Nat → Prop} (h : gm_fr σ σ2 F R) (hF : ∀ x j, F x j → F2 x j) (hR : ∀ y, R y → R2 y) : gm_fr σ σ2 F2 R2 := ⟨fun x j hx => h.1 x j (fun z => hx (hF x j z)), fun y hy => h.2 y (fun z => hy (hR y z))⟩
theorem gm_fr_kp {σ σ2 : gm_S} {F : Nat → Nat → Prop} {R : Nat → Prop} (h : gm_kp σ σ2 R) : gm_fr σ σ2 F R := ⟨fun x j _ => by rw [h.1], h.2⟩
theorem pk_fr {σ σ2 : gm_S} {k : Nat} {q : pq} (hk : k < 7) (h : ∀ y, pk_R k y → σ2.2 y = σ.2 y) (g : pk_rep σ k q) : pk_rep σ2 k q := ⟨fun e he => by rw [h _ (Or.inl rfl)]; exact g.1 e he, fun i hi => fr_cong (h _ (Or.inr ⟨by omega, by omega⟩)) (h _ (Or.inr ⟨by omega, by omega⟩)) (g.2 i hi)⟩
theorem pk_sr {σ σ2 : gm_S} {k : Nat} {q : pq} (hk : k < 7) (h : gm_fr σ σ2 (sr_F k) (sr_R k)) (g : pk_rep σ k q) : pk_rep σ2 k q := pk_fr hk (fun y hy => h.2 y (by rintro (z | z) <;> rcases hy with w | w <;> omega)) g
theorem ps_kp {σ σ2 : gm_S} {R : Nat → Prop} {ps : Nat → Bool} (h : gm_kp σ σ2 R) (g : bm (σ.1 1 2) ps) : bm (σ2.1 1 2) ps := by rw [h.1]; exact g
theorem ps_fr {σ σ2 : gm_S} {k : Nat} {F : Nat → Nat → Prop} {R : Nat → Prop} {ps : Nat → Bool} (hF : ∀ x j, F x j → x = gm_P k) (h : gm_fr σ σ2 F R) (g : bm (σ.1 1 2) ps) : bm (σ2.1 1 2) ps := by rw [h.1 1 2 (fun z => by have := hF 1 2 z; unfold gm_P at this; omega)]; exact g
theorem ps_sr {σ σ2 : gm_S} {k : Nat} {R : Nat → Prop} {ps : Nat → Bool} (h : gm_fr σ σ2 (sr_F k) R) (g : bm (σ.1 1 2) ps) : bm (σ2.1 1 2) ps := ps_fr (fun _ _ z => z.1) h g
theorem sr_R_lo {k y : Nat} (h : y < 20) : ¬ sr_R k y := fun q => by unfold sr_R gm_P at q; omega
theorem gL_sr {σ σ2 : gm_S} {U V : Nat → Nat} {k : Nat} (h : gm_fr σ σ2 (sr_F k) (sr_R k)) (g : gL σ U V) : gL σ2 U V := gL_cong (h.2 2 (sr_R_lo (by decide))) (h.2 3 (sr_R_lo (by decide))) g
/-- the way's edges are below 24 -/
theorem wm_lt {par eup : Nat → Option Nat} {a b : Nat} (ha : a < 10) (hb : b < 10) (hp : ∀ j, j < 10 → (∀ m, par j = some m → m < 10) ∧ ∀ e, eup j = some e → e < 24) {S : Nat → Bool} (h : wm par eup a b = some S) : ∀ i, S i = true → i < 24 := by
  have h2 : ∀ (A : Nat → Bool) n v S0, (∀ m, v = some m → m < 10) → (∀ i, S0 i = true → i < 24) → ∀ i, (wm_lo par eup A n v S0).2 i = true → i < 24 := by
    intro A n
    induction n with
    | zero => intro v S0 _ h0; rw [wm_lo]; exact h0
    | succ n ih =>
      intro v S0 hv h0
      cases v with
      | none => rw [wm_lo]; exact h0
      | some m =>
        rw [wm_lo]
        split
        · exact h0
        · refine ih (par m) _ (hp m (hv m rfl)).1 (fun i hi => ?_)
          simp only [Bool.or_eq_true, decide_eq_true_eq] at hi
          rcases hi with hi | hi
          · exact h0 i hi
          · exact (hp m (hv m rfl)).2 i hi
  have h3 : ∀ t n v S0, (∀ m, v = some m → m < 10) → (∀ i, S0 i = true → i < 24) → ∀ i, wm_en par eup t n v S0 i = true → i < 24 := by
    intro t n
    induction n with
    | zero => intro v S0 _ h0; rw [wm_en]; exact h0
    | succ n ih =>
      intro v S0 hv h0
      cases v with
      | none => rw [wm_en]; exact h0
      | some m =>
        rw [wm_en]
        split
        · exact h0
        · refine ih (par m) _ (hp m (hv m rfl)).1 (fun i hi => ?_)
          simp only [Bool.or_eq_true, decide_eq_true_eq] at hi
          rcases hi with hi | hi
          · exact h0 i hi
          · exact (hp m (hv m rfl)).2 i hi
  unfold wm at h
  have g2 := h2 (wm_up par 10 (some a) (fun _ => false)) 10 (some b) (fun _ => false) (fun m hm => by cases hm; exact hb) (fun i hi => by cases hi)
  generalize wm_lo par eup (wm_up par 10 (some a) (fun _ => false)) 10 (some b) (fun _ => false) = z at h g2
  obtain ⟨t, S1⟩ := z
  cases t with
  | none => cases h
  | some t =>
    cases h
    exact h3 t 10 (some a) S1 (fun m hm => by cases hm; exact ha) g2
theorem wm_ne {r : Int32} {S : Nat → Bool} (h : bm r S) (hS : ∀ i, S i = true → i < 24) : r ≠ -1 := by
  intro e
  have := h 31 (by omega)
  rw [e, b_m1 31 (by omega)] at this
  have := hS 31 this.symm
  omega
set_option maxHeartbeats 4000000 in
set_option maxRecDepth 100000 in
theorem c_J7_fill_53178 (l : Launch) (E : gm_E) (x n : Nat) (ho : gm_isI E x n) (hn : n ≤ 100) (σ : gm_S) (v : Int32) : gm_MV l E yJ7_fill_53178 (.code yJ7_fill_53178 cJ7_fill_53178 4 none :: gw_T) { frames := 0, cells := 0, slots := 0, locals := 0 } [.ref (E.2.2 x), .int v] σ (fun σ2 => gm_kp σ σ2 (fun y => y = x) ∧ ∀ j, j < n → σ2.2 x j = v) := by
  refine gm_enterV RJ7 (by decide +kernel) rfl rfl (Nat.le_of_ble_eq_true rfl) (gm_c1_ok rfl) ?_
  intro X hC hR
  show gm_G X E 4 0 [some (.ref (E.2.2 x)), some (.int v), none, none] [] σ
  have L : ∀ m i (σ2 : gm_S), i + m = n → gm_kp σ σ2 (fun y => y = x) → (∀ j, j < i → σ2.2 x j = v) → gm_G X E 4 5 [some (.ref (E.2.2 x)), some (.int v), some (.int (nI i)), some (.int (nI n))] [] σ2 := by
    intro m
    induction m with
    | zero =>
      intro i σ2 hi hkp hv
      have hi : i = n := by omega
      subst hi
      refine gi_ildn hC dJ7_fill_53178_5 rfl ?_
      refine gi_ildn hC dJ7_fill_53178_6 rfl ?_
      refine gi_icmp_ge hC 20 dJ7_fill_53178_7 (by decide) (fun h1 => ?_) (fun h1 => ?_)
      · exact hR _ _ _ ⟨hkp, hv⟩ dJ7_fill_53178_20
      · exact absurd (Int32.le_refl _) h1
    | succ m ih =>
      intro i σ2 hi hkp hv
      refine gi_ildn hC dJ7_fill_53178_5 rfl ?_
      refine gi_ildn hC dJ7_fill_53178_6 rfl ?_
      refine gi_icmp_ge hC 20 dJ7_fill_53178_7 (by decide) (fun h1 => ?_) (fun h1 => ?_)
      · exact absurd h1 (nI_ge (a := i) (b := n) (by omega) (by omega))
      ·
        refine gi_aldn hC dJ7_fill_53178_10 rfl ?_
        refine gi_ildn hC dJ7_fill_53178_11 rfl ?_
        refine gi_ildn hC dJ7_fill_53178_12 rfl ?_
        refine gi_iast hC ho (j := i) (by omega) rfl (by first | decide | omega) dJ7_fill_53178_13 ?_
        refine gi_iinc_2 hC dJ7_fill_53178_14 (nI_1 i) (by decide) ?_
        refine gi_goto hC 5 dJ7_fill_53178_17 (by decide) ?_
        refine ih (i + 1) _ (by omega) (gm_kp_tr hkp (gm_kp_ar rfl)) (fun j hj => ?_)
        by_cases hji : j = i
        · subst hji; exact gm_ar_2 _ _ _ _
        · rw [gm_ar_n _ _ (fun z => hji z.2)]; exact hv j (by omega)
  refine gi_const hC (v := 0) dJ7_fill_53178_0 (by decide) ?_
  refine gi_istn_2 hC dJ7_fill_53178_1 (by decide) ?_
  refine gi_aldn hC dJ7_fill_53178_2 rfl ?_
  refine gi_alenI hC ho dJ7_fill_53178_3 ?_
  refine gi_istn_3 hC dJ7_fill_53178_4 (by decide) ?_
  exact L n 0 σ (by omega) gm_kp_rf (fun j hj => absurd hj (Nat.not_lt_zero j))
set_option maxHeartbeats 4000000 in
set_option maxRecDepth 100000 in
theorem c_X2_clear (l : Launch) (E : gm_E) {kk ii : Nat} (hk : kk < 7) (hi : ii < kk) (σ : gm_S) : gm_MV l E yX2_clear (.code yX2_clear cX2_clear 1 none :: gw_T) { frames := 1, cells := 0, slots := 0, locals := 23 } [.ref (E.2.2 (gm_P kk + 5 + 3 * ii))] σ (fun σ2 => gm_kp σ σ2 (fun y => y = gm_P kk + 5 + 3 * ii + 1 ∨ y = gm_P kk + 5 + 3 * ii + 2) ∧ fr_rep σ2 (gm_P kk + 5 + 3 * ii) (fun _ => none) (fun _ => none)) := by
  refine gm_enterV RX2 (by decide +kernel) rfl rfl (Nat.le_of_ble_eq_true rfl) (gm_c1_ok rfl) ?_
  intro X hC hR
  show gm_G X E 1 0 [some (.ref (E.2.2 (gm_P kk + 5 + 3 * ii)))] [] σ
  refine gi_aldn hC dX2_clear_0 rfl ?_
  refine gf_F_parent hC hk hi gw_82 dX2_clear_1 ?_
  refine gi_const hC (v := -1) dX2_clear_4 (by decide) ?_
  refine gk_SV (n := 2) hC (fun l => c_J7_fill_53178 l E (gm_P kk + 5 + 3 * ii + 1) 10 (gm_iU E hk hi 1 (by decide) (by decide)) (by decide) σ (-1)) (gw_S gw_198 gw_199 gw_30 gw_200) rfl ⟨rfl, rfl⟩ rfl (by decide +kernel) ⟨by decide, by decide⟩ (Nat.le_of_ble_eq_true rfl) dX2_clear_5 (fun σ1 h1 => ?_)
  refine gi_aldn hC dX2_clear_8 rfl ?_
  refine gf_F_edgeUp hC hk hi gw_83 dX2_clear_9 ?_
  refine gi_const hC (v := 0) dX2_clear_12 (by decide) ?_
  refine gk_SV (n := 2) hC (fun l => c_J7_fill_53178 l E (gm_P kk + 5 + 3 * ii + 2) 10 (gm_iU E hk hi 2 (by decide) (by decide)) (by decide) σ1 0) (gw_S gw_198 gw_199 gw_30 gw_200) rfl ⟨rfl, rfl⟩ rfl (by decide +kernel) ⟨by decide, by decide⟩ (Nat.le_of_ble_eq_true rfl) dX2_clear_13 (fun σ2 h2 => ?_)
  refine hR _ _ _ ⟨gm_kp_tr (gm_kp_mono h1.1 (fun _ h => Or.inl h)) (gm_kp_mono h2.1 (fun _ h => Or.inr h)), fun j hj => ⟨?_, fun m hm => (by cases hm), ?_, fun e he => (by cases he)⟩⟩ dX2_clear_16
  · rw [h2.1.2 _ (by omega), h1.2 j hj]; rfl
  · rw [h2.2 j hj]; exact fun i _ => by rw [b_0]; simp
set_option maxHeartbeats 4000000 in
set_option maxRecDepth 100000 in
theorem c_X1_leastOf (l : Launch) (E : gm_E) (σ : gm_S) (x : Int32) : gm_MI l E yX1_leastOf (.code yX1_leastOf cX1_leastOf 2 (some .int) :: gw_T) { frames := 0, cells := 0, slots := 0, locals := 0 } [.int x] σ (fun r σ2 => σ2 = σ ∧ ((∃ j, j < 24 ∧ r = nI j ∧ bt x j = true ∧ ∀ i, i < j → bt x i = false) ∨ (r = -1 ∧ ∀ i, i < 24 → bt x i = false))) := by
  refine gm_enterI RX1 (by decide +kernel) rfl rfl (Nat.le_of_ble_eq_true rfl) (gm_c1_ok rfl) ?_
  intro X hC hR
  show gm_G X E 2 0 [some (.int x), none] [] σ
  have L : ∀ n i, i + n = 24 → (∀ j, j < i → bt x j = false) → gm_G X E 2 2 [some (.int x), some (.int (nI i))] [] σ := by
    intro n
    induction n with
    | zero =>
      intro i hi hb
      have hi : i = 24 := by omega
      subst hi
      refine gi_ildn hC dX1_leastOf_2 rfl ?_
      refine gi_bipush hC (v := 24) dX1_leastOf_3 (by decide) ?_
      refine gi_icmp_ge hC 25 dX1_leastOf_5 (by decide) (fun h1 => ?_) (fun h1 => ?_)
      ·
        refine gi_const hC (v := -1) dX1_leastOf_25 (by decide) ?_
        exact hR _ _ _ _ rfl ⟨rfl, Or.inr ⟨rfl, hb⟩⟩ dX1_leastOf_26
      · exact absurd (Int32.le_refl _) h1
    | succ n ih =>
      intro i hi hb
      refine gi_ildn hC dX1_leastOf_2 rfl ?_
      refine gi_bipush hC (v := 24) dX1_leastOf_3 (by decide) ?_
      refine gi_icmp_ge hC 25 dX1_leastOf_5 (by decide) (fun h1 => ?_) (fun h1 => ?_)
      · exact absurd h1 (nI_ge (a := i) (b := 24) (by omega) (by omega))
      ·
        refine gi_ildn hC dX1_leastOf_8 rfl ?_
        refine gi_ildn hC dX1_leastOf_9 rfl ?_
        refine gi_ishr hC dX1_leastOf_10 ?_
        refine gi_const hC (v := 1) dX1_leastOf_11 (by decide) ?_
        refine gi_iand hC dX1_leastOf_12 ?_
        refine gi_const hC (v := 1) dX1_leastOf_13 (by decide) ?_
        refine gi_icmp_ne hC 19 dX1_leastOf_14 (by decide) (fun h2 => ?_) (fun h2 => ?_)
        ·
          have hbi : bt x i = false := by
            cases hbb : bt x i
            · rfl
            · exact absurd ((b_tst1 x (by omega)).mpr hbb) h2
          refine gi_iinc_1 hC dX1_leastOf_19 (nI_1 i) (by decide) ?_
          refine gi_goto hC 2 dX1_leastOf_22 (by decide) ?_
          exact ih (i + 1) (by omega) (fun j hj => by
            rcases Nat.lt_or_ge j i with q | q
            · exact hb j q
            · rw [show j = i by omega]; exact hbi)
        ·
          refine gi_ildn hC dX1_leastOf_17 rfl ?_
          exact hR _ _ _ _ rfl ⟨rfl, Or.inl ⟨i, by omega, rfl, (b_tst1 x (by omega)).mp h2, hb⟩⟩ dX1_leastOf_18
  refine gi_const hC (v := 0) dX1_leastOf_0 (by decide) ?_
  refine gi_istn_1 hC dX1_leastOf_1 (by decide) ?_
  exact L 24 0 rfl (fun j hj => absurd hj (Nat.not_lt_zero j))
