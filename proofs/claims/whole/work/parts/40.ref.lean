/-! THE REFERENCE: words, and its plain methods -/
def cnt_lp (P : Nat → Bool) : Nat → Nat → Nat → Nat
  | 0, _, c => c
  | n + 1, e, c => if P e = true then cnt_lp P n (e + 1) (c + 1) else cnt_lp P n (e + 1) c
theorem cnt_lp_le (P : Nat → Bool) : ∀ n e c, cnt_lp P n e c ≤ c + n
  | 0, _, c => Nat.le_refl c
  | n + 1, e, c => by
    rw [cnt_lp]
    split
    · have := cnt_lp_le P n (e + 1) (c + 1); omega
    · have := cnt_lp_le P n (e + 1) c; omega
theorem cnt_lp_ge (P : Nat → Bool) : ∀ n e c, c ≤ cnt_lp P n e c
  | 0, _, c => Nat.le_refl c
  | n + 1, e, c => by
    rw [cnt_lp]
    split
    · have := cnt_lp_ge P n (e + 1) (c + 1); omega
    · exact cnt_lp_ge P n (e + 1) c
theorem cnt_lp_pos {P : Nat → Bool} {i : Nat} (hi : P i = true) : ∀ n e c, e ≤ i → i < e + n → c + 1 ≤ cnt_lp P n e c
  | 0, e, c, h1, h2 => by omega
  | n + 1, e, c, h1, h2 => by
    rw [cnt_lp]
    by_cases h : e = i
    · subst h; rw [if_pos hi]; exact cnt_lp_ge P n (e + 1) (c + 1)
    · split
      · have := cnt_lp_pos hi n (e + 1) (c + 1) (by omega) (by omega); omega
      · exact cnt_lp_pos hi n (e + 1) c (by omega) (by omega)
def mE (σ : gm_S) (U V : Nat → Nat) : Prop := ∀ e, e < 24 → σ.2 6 (2 * e) = nI (U e) ∧ σ.2 6 (2 * e + 1) = nI (V e) ∧ U e < 10 ∧ V e < 10
def mZ (σ : gm_S) (x : Nat) (S : Nat → Bool) : Prop := ∀ e, e < 24 → σ.2 x e = if S e = true then 1 else 0
def mG (σ : gm_S) (n : Nat) (ps : Nat → Bool) (U V : Nat → Nat) : Prop := 1 ≤ n ∧ n ≤ 10 ∧ σ.1 5 0 = nI n ∧ mZ σ 7 ps ∧ mE σ U V ∧ (∀ e, 24 ≤ e → ps e = false) ∧ ∀ e, ps e = true → U e < V e ∧ V e < n
/-- the reference writes nothing of the class -/
def mFR (σ σ2 : gm_S) : Prop := gm_fr σ σ2 (fun x _ => x = 5) (fun y => 6 ≤ y ∧ y ≤ 14)
theorem mFR_rf {σ : gm_S} : mFR σ σ := gm_fr_rf
theorem mFR_tr {σ σ2 σ3 : gm_S} (h : mFR σ σ2) (g : mFR σ2 σ3) : mFR σ σ3 := gm_fr_tr h g
/-- only the held edges change -/
def hFR (σ σ2 : gm_S) : Prop := gm_fr σ σ2 (fun x j => x = 5 ∧ j = 3) (fun _ => False)
theorem hFR_m {σ σ2 : gm_S} (h : hFR σ σ2) : mFR σ σ2 := gm_fr_mono h (fun _ _ z => z.1) (fun _ z => absurd z id)
theorem mG_h {σ σ2 : gm_S} {n : Nat} {ps : Nat → Bool} {U V : Nat → Nat} (h : hFR σ σ2) (g : mG σ n ps U V) : mG σ2 n ps U V := by
  obtain ⟨g1, g2, g3, g4, g5, g6, g7⟩ := g
  have hr : ∀ y, σ2.2 y = σ.2 y := fun y => h.2 y (fun z => z)
  exact ⟨g1, g2, by rw [h.1 5 0 (fun z => by cases z.2)]; exact g3, fun e he => by rw [hr]; exact g4 e he, fun e he => by rw [hr]; exact g5 e he, g6, g7⟩
/-- two ends of one edge more, or none -/
def abI (ab : Option (Nat × Nat)) : Int32 × Int32 := match ab with
  | none => (-1, -1)
  | some (a, b) => (nI a, nI b)
def ab10 (ab : Option (Nat × Nat)) : Prop := ∀ a b, ab = some (a, b) → a < 10 ∧ b < 10
def m0 (p : Nat) (ab : Option (Nat × Nat)) : Nat := match ab with
  | none => 0
  | some (a, b) => if p.testBit a = true ∧ p.testBit b = true then 1 else 0
def wcn (U V : Nat → Nat) (S : Nat → Bool) (p : Nat) (ab : Option (Nat × Nat)) : Nat := cnt_lp (fun e => S e && p.testBit (U e) && p.testBit (V e)) 24 0 (m0 p ab)
def bcn (p : Nat) : Nat := cnt_lp (fun i => p.testBit i) 10 0 0
def FT (n : Nat) (U V : Nat → Nat) (S : Nat → Bool) (k : Nat) (ab : Option (Nat × Nat)) : Prop := ∀ p, 1 ≤ p → p < 2 ^ n → wcn U V S p ab ≤ k * (bcn p - 1)
def ftb (n : Nat) (U V : Nat → Nat) (S : Nat → Bool) (k : Nat) (ab : Option (Nat × Nat)) : Bool := (List.range (2 ^ n)).all (fun p => decide (p = 0) || decide (wcn U V S p ab ≤ k * (bcn p - 1)))
theorem ftb_iff {n : Nat} {U V : Nat → Nat} {S : Nat → Bool} {k : Nat} {ab : Option (Nat × Nat)} : ftb n U V S k ab = true ↔ FT n U V S k ab := by
  simp only [ftb, List.all_eq_true, List.mem_range, Bool.or_eq_true, decide_eq_true_eq]
  constructor
  · intro h p h1 h2
    rcases h p h2 with z | z
    · omega
    · exact z
  · intro h p hp
    rcases Nat.eq_zero_or_pos p with z | z
    · exact Or.inl z
    · exact Or.inr (h p z hp)
def hd_lp (n : Nat) (U V : Nat → Nat) (ps : Nat → Bool) (k : Nat) : Nat → Nat → (Nat → Bool) → (Nat → Bool)
  | 0, _, S => S
  | m + 1, e, S => if ps e = true ∧ ftb n U V (fun i => S i || decide (i = e)) k none = true then hd_lp n U V ps k m (e + 1) (fun i => S i || decide (i = e)) else hd_lp n U V ps k m (e + 1) S
def hdd (n : Nat) (U V : Nat → Nat) (ps : Nat → Bool) (k : Nat) : Nat → Bool := hd_lp n U V ps k 24 0 (fun _ => false)
theorem bm_nI {p : Nat} (hp : p < 2 ^ 31) : bm (nI p) (fun i => p.testBit i) := by
  intro i hi
  show (BitVec.ofNat 32 p).getLsbD i = p.testBit i
  rw [BitVec.getLsbD_ofNat]
  simp [hi]
theorem bcn_pos {p : Nat} (h1 : 1 ≤ p) (h2 : p < 1024) : 1 ≤ bcn p := by
  obtain ⟨i, hi⟩ := Nat.exists_testBit_of_ne_zero (show p ≠ 0 by omega)
  have hi10 : i < 10 := by
    rcases Nat.lt_or_ge i 10 with z | z
    · exact z
    · have h3 : p < 2 ^ i := Nat.lt_of_lt_of_le h2 (Nat.pow_le_pow_right (n := 2) (i := 10) (by omega) z)
      rw [Nat.testBit_lt_two_pow h3] at hi
      cases hi
  have := cnt_lp_pos (P := fun i => p.testBit i) hi 10 0 0 (Nat.zero_le _) (by omega)
  unfold bcn
  omega
theorem nI_inn {v : Int32} {lo hi : Nat} (hh : hi < 2 ^ 31) (hl : lo < 2 ^ 31) : (¬ v < nI lo ∧ ¬ nI hi < v) ↔ ∃ j, lo ≤ j ∧ j ≤ hi ∧ v = nI j := by
  constructor
  · rintro ⟨h1, h2⟩
    have h0 : ¬ v < 0 := fun h => h1 (by
      rw [Int32.lt_iff_toInt_lt] at h ⊢
      have e0 : (0 : Int32).toInt = 0 := by decide
      rw [nI_toInt hl]
      omega)
    obtain ⟨j, hj, rfl⟩ := nI_of h0
    rw [nI_ltI hj hl] at h1
    rw [nI_ltI hh hj] at h2
    exact ⟨j, by omega, by omega, rfl⟩
  · rintro ⟨j, h1, h2, rfl⟩
    rw [nI_ltI (by omega) hl, nI_ltI hh (by omega)]
    omega
set_option maxHeartbeats 4000000 in
set_option maxRecDepth 100000 in
theorem c_X4_in (l : Launch) (E : gm_E) (σ : gm_S) (v a b : Int32) : gm_MI l E yX4_in (.code yX4_in cX4_in 3 (some .boolean) :: gw_T) { frames := 0, cells := 0, slots := 0, locals := 0 } [.int v, .int a, .int b] σ (fun r σ2 => (r = 1 ∧ (¬ v < a ∧ ¬ b < v) ∨ r = 0 ∧ ¬ (¬ v < a ∧ ¬ b < v)) ∧ σ2 = σ) := by
  refine gm_enterI RX4 (by decide +kernel) rfl rfl (Nat.le_of_ble_eq_true rfl) (gm_c1_ok rfl) ?_
  intro X hC hR
  show gm_G X E 3 0 [some (.int v), some (.int a), some (.int b)] [] σ
  refine gi_ildn hC dX4_in_0 rfl ?_
  refine gi_ildn hC dX4_in_1 rfl ?_
  refine gi_icmp_lt hC 14 dX4_in_2 (by decide) (fun h1 => ?_) (fun h1 => ?_)
  ·
    refine gi_const hC (v := 0) dX4_in_14 (by decide) ?_
    exact hR _ _ _ _ (by decide +kernel) ⟨Or.inr ⟨rfl, fun z => z.1 h1⟩, rfl⟩ dX4_in_15
  ·
    refine gi_ildn hC dX4_in_5 rfl ?_
    refine gi_ildn hC dX4_in_6 rfl ?_
    refine gi_icmp_gt hC 14 dX4_in_7 (by decide) (fun h2 => ?_) (fun h2 => ?_)
    ·
      refine gi_const hC (v := 0) dX4_in_14 (by decide) ?_
      exact hR _ _ _ _ (by decide +kernel) ⟨Or.inr ⟨rfl, fun z => z.2 h2⟩, rfl⟩ dX4_in_15
    ·
      refine gi_const hC (v := 1) dX4_in_10 (by decide) ?_
      refine gi_goto hC 15 dX4_in_11 (by decide) ?_
      exact hR _ _ _ _ (by decide +kernel) ⟨Or.inl ⟨rfl, h1, h2⟩, rfl⟩ dX4_in_15
set_option maxHeartbeats 4000000 in
set_option maxRecDepth 100000 in
theorem c_X4_has (l : Launch) (E : gm_E) (σ : gm_S) (ps : Nat → Bool) (hz : mZ σ 7 ps) (a : Int32) : gm_MI l E yX4_has (.code yX4_has cX4_has 2 (some .boolean) :: gw_T) { frames := 1, cells := 0, slots := 0, locals := 22 } [.ref (E.2.2 5), .int a] σ (fun r σ2 => (r = 1 ∧ (∃ j, j < 24 ∧ a = nI j ∧ ps j = true) ∨ r = 0 ∧ ¬ ∃ j, j < 24 ∧ a = nI j ∧ ps j = true) ∧ σ2 = σ) := by
  refine gm_enterI RX4 (by decide +kernel) rfl rfl (Nat.le_of_ble_eq_true rfl) (gm_c1_ok rfl) ?_
  intro X hC hR
  show gm_G X E 2 0 [some (.ref (E.2.2 5)), some (.int a)] [] σ
  refine gi_ildn hC dX4_has_0 rfl ?_
  refine gi_const hC (v := 0) dX4_has_1 (by decide) ?_
  refine gi_bipush hC (v := 23) dX4_has_2 (by decide) ?_
  refine gk_SI (n := 3) hC (fun l => c_X4_in l E σ a 0 23) (gw_S gw_355 gw_356 gw_28 gw_357) rfl ⟨rfl, rfl⟩ rfl (by decide +kernel) ⟨by decide, by decide⟩ (Nat.le_of_ble_eq_true rfl) dX4_has_4 (fun r σ1 h1 => ?_)
  obtain ⟨h1, rfl⟩ := h1
  rw [show (0 : Int32) = nI 0 from rfl, show (23 : Int32) = nI 23 from rfl, nI_inn (by omega) (by omega)] at h1
  refine gi_if_eq hC 23 dX4_has_7 (by decide) (fun h2 => ?_) (fun h2 => ?_)
  ·
    have hn : ¬ ∃ j, 0 ≤ j ∧ j ≤ 23 ∧ a = nI j := by
      rcases h1 with ⟨z, -⟩ | ⟨-, z⟩
      · rw [z] at h2; exact absurd h2 (by decide)
      · exact z
    refine gi_const hC (v := 0) dX4_has_23 (by decide) ?_
    exact hR _ _ _ _ (by decide +kernel) ⟨Or.inr ⟨rfl, fun ⟨j, z1, z2, _⟩ => hn ⟨j, by omega, by omega, z2⟩⟩, rfl⟩ dX4_has_24
  ·
    obtain ⟨j, -, hj, rfl⟩ : ∃ j, 0 ≤ j ∧ j ≤ 23 ∧ a = nI j := by
      rcases h1 with ⟨-, z⟩ | ⟨z, -⟩
      · exact z
      · exact absurd z h2
    have hzj := hz j (by omega)
    refine gi_aldn hC dX4_has_10 rfl ?_
    refine gf_M_isEdge hC gw_318 dX4_has_11 ?_
    refine gi_ildn hC dX4_has_14 rfl ?_
    refine gi_zald hC (gm_i7 E) (j := j) (by omega) rfl (by first | decide | omega) dX4_has_15 ?_
    rw [hzj]
    refine gi_if_eq hC 23 dX4_has_16 (by decide) (fun h3 => ?_) (fun h3 => ?_)
    ·
      have hpj : ¬ ps j = true := fun z => by rw [if_pos z] at h3; exact absurd h3 (by decide)
      refine gi_const hC (v := 0) dX4_has_23 (by decide) ?_
      exact hR _ _ _ _ (by decide +kernel) ⟨Or.inr ⟨rfl, fun ⟨i, z1, z2, z3⟩ => hpj ((nI_eq (by omega) (by omega)).mp z2 ▸ z3)⟩, rfl⟩ dX4_has_24
    ·
      have hpj : ps j = true := by
        cases hb : ps j
        · rw [hb] at h3; exact absurd rfl h3
        · rfl
      refine gi_const hC (v := 1) dX4_has_19 (by decide) ?_
      refine gi_goto hC 24 dX4_has_20 (by decide) ?_
      exact hR _ _ _ _ (by decide +kernel) ⟨Or.inl ⟨rfl, j, by omega, rfl, hpj⟩, rfl⟩ dX4_has_24
set_option maxHeartbeats 4000000 in
set_option maxRecDepth 100000 in
theorem c_X4_isK (l : Launch) (E : gm_E) (σ : gm_S) (k : Int32) : gm_MI l E yX4_isK (.code yX4_isK cX4_isK 1 (some .boolean) :: gw_T) { frames := 1, cells := 0, slots := 0, locals := 22 } [.int k] σ (fun r σ2 => (r = 1 ∧ (∃ j, j < 7 ∧ k = nI j) ∨ r = 0 ∧ ¬ ∃ j, j < 7 ∧ k = nI j) ∧ σ2 = σ) := by
  refine gm_enterI RX4 (by decide +kernel) rfl rfl (Nat.le_of_ble_eq_true rfl) (gm_c1_ok rfl) ?_
  intro X hC hR
  show gm_G X E 1 0 [some (.int k)] [] σ
  refine gi_ildn hC dX4_isK_0 rfl ?_
  refine gi_const hC (v := 0) dX4_isK_1 (by decide) ?_
  refine gi_bipush hC (v := 6) dX4_isK_2 (by decide) ?_
  refine gk_SI (n := 3) hC (fun l => c_X4_in l E σ k 0 6) (gw_S gw_355 gw_356 gw_28 gw_357) rfl ⟨rfl, rfl⟩ rfl (by decide +kernel) ⟨by decide, by decide⟩ (Nat.le_of_ble_eq_true rfl) dX4_isK_4 (fun r σ1 h1 => ?_)
  obtain ⟨h1, rfl⟩ := h1
  rw [show (¬ k < 0 ∧ ¬ (6 : Int32) < k) = ∃ j, j < 7 ∧ k = nI j from propext nI_k6] at h1
  refine hR _ _ _ _ ?_ ⟨h1, rfl⟩ dX4_isK_7
  rcases h1 with ⟨rfl, -⟩ | ⟨rfl, -⟩ <;> decide +kernel
set_option maxHeartbeats 4000000 in
set_option maxRecDepth 100000 in
theorem c_X4_isVertex (l : Launch) (E : gm_E) (σ : gm_S) (n : Nat) (h1n : 1 ≤ n) (hn : n ≤ 10) (h3 : σ.1 5 0 = nI n) (v : Int32) : gm_MI l E yX4_isVertex (.code yX4_isVertex cX4_isVertex 2 (some .boolean) :: gw_T) { frames := 1, cells := 0, slots := 0, locals := 22 } [.ref (E.2.2 5), .int v] σ (fun r σ2 => (r = 1 ∧ (∃ j, j < n ∧ v = nI j) ∨ r = 0 ∧ ¬ ∃ j, j < n ∧ v = nI j) ∧ σ2 = σ) := by
  refine gm_enterI RX4 (by decide +kernel) rfl rfl (Nat.le_of_ble_eq_true rfl) (gm_c1_ok rfl) ?_
  intro X hC hR
  show gm_G X E 2 0 [some (.ref (E.2.2 5)), some (.int v)] [] σ
  obtain ⟨n, rfl⟩ : ∃ m, n = m + 1 := ⟨n - 1, by omega⟩
  refine gi_ildn hC dX4_isVertex_0 rfl ?_
  refine gi_const hC (v := 0) dX4_isVertex_1 (by decide) ?_
  refine gi_aldn hC dX4_isVertex_2 rfl ?_
  refine gf_M_n hC gw_316 dX4_isVertex_3 ?_
  rw [h3]
  refine gi_const hC (v := 1) dX4_isVertex_6 (by decide) ?_
  refine gi_isub hC dX4_isVertex_7 ?_
  rw [nI_pred]
  refine gk_SI (n := 3) hC (fun l => c_X4_in l E σ v 0 (nI n)) (gw_S gw_355 gw_356 gw_28 gw_357) rfl ⟨rfl, rfl⟩ rfl (by decide +kernel) ⟨by decide, by decide⟩ (Nat.le_of_ble_eq_true rfl) dX4_isVertex_8 (fun r σ1 h1 => ?_)
  obtain ⟨h1, rfl⟩ := h1
  rw [show (0 : Int32) = nI 0 from rfl, nI_inn (by omega) (by omega)] at h1
  have he : (∃ j, 0 ≤ j ∧ j ≤ n ∧ v = nI j) ↔ ∃ j, j < n + 1 ∧ v = nI j := ⟨fun ⟨j, _, a, b⟩ => ⟨j, by omega, b⟩, fun ⟨j, a, b⟩ => ⟨j, by omega, by omega, b⟩⟩
  rw [he] at h1
  refine hR _ _ _ _ ?_ ⟨h1, rfl⟩ dX4_isVertex_11
  rcases h1 with ⟨rfl, -⟩ | ⟨rfl, -⟩ <;> decide +kernel
set_option maxHeartbeats 4000000 in
set_option maxRecDepth 100000 in
theorem c_X4_many (l : Launch) (E : gm_E) (σ : gm_S) (ps : Nat → Bool) (hz : mZ σ 7 ps) : gm_MI l E yX4_many (.code yX4_many cX4_many 3 (some .int) :: gw_T) { frames := 0, cells := 0, slots := 0, locals := 0 } [.ref (E.2.2 5)] σ (fun r σ2 => r = nI (cnt_lp ps 24 0 0) ∧ σ2 = σ) := by
  refine gm_enterI RX4 (by decide +kernel) rfl rfl (Nat.le_of_ble_eq_true rfl) (gm_c1_ok rfl) ?_
  intro X hC hR
  show gm_G X E 3 0 [some (.ref (E.2.2 5)), none, none] [] σ
  obtain ⟨Z, hZ⟩ : ∃ Z, Z = cnt_lp ps 24 0 0 := ⟨_, rfl⟩
  rw [← hZ] at hR
  have L : ∀ n i c, i + n = 24 → Z = cnt_lp ps n i c → gm_G X E 3 4 [some (.ref (E.2.2 5)), some (.int (nI c)), some (.int (nI i))] [] σ := by
    intro n
    induction n with
    | zero =>
      intro i c hi0 hw
      have hi0 : i = 24 := by omega
      subst hi0
      rw [cnt_lp] at hw
      subst hw
      refine gi_ildn hC dX4_many_4 rfl ?_
      refine gi_bipush hC (v := 24) dX4_many_5 (by decide) ?_
      refine gi_icmp_ge hC 33 dX4_many_7 (by decide) (fun h1 => ?_) (fun h1 => ?_)
      ·
        refine gi_ildn hC dX4_many_33 rfl ?_
        exact hR _ _ _ _ rfl ⟨rfl, rfl⟩ dX4_many_34
      · exact absurd (Int32.le_refl _) h1
    | succ n ih =>
      intro i c hi0 hw
      rw [cnt_lp] at hw
      have hzi := hz i (by omega)
      refine gi_ildn hC dX4_many_4 rfl ?_
      refine gi_bipush hC (v := 24) dX4_many_5 (by decide) ?_
      refine gi_icmp_ge hC 33 dX4_many_7 (by decide) (fun h1 => ?_) (fun h1 => ?_)
      · exact absurd h1 (nI_ge (a := i) (b := 24) (by omega) (by omega))
      ·
        refine gi_aldn hC dX4_many_10 rfl ?_
        refine gf_M_isEdge hC gw_318 dX4_many_11 ?_
        refine gi_ildn hC dX4_many_14 rfl ?_
        refine gi_zald hC (gm_i7 E) (j := i) (by omega) rfl (by first | decide | omega) dX4_many_15 ?_
        rw [hzi]
        refine gi_if_eq hC 25 dX4_many_16 (by decide) (fun h2 => ?_) (fun h2 => ?_)
        ·
          rw [if_neg (fun z => by rw [if_pos z] at h2; exact absurd h2 (by decide))] at hw
          refine gi_ildn hC dX4_many_25 rfl ?_
          refine gi_istn_1 hC dX4_many_26 (by decide) ?_
          refine gi_iinc_2 hC dX4_many_27 (nI_1 i) (by decide) ?_
          refine gi_goto hC 4 dX4_many_30 (by decide) ?_
          exact ih (i + 1) c (by omega) hw
        ·
          rw [if_pos (by
            cases hb : ps i
            · rw [hb] at h2; exact absurd rfl h2
            · rfl)] at hw
          refine gi_ildn hC dX4_many_19 rfl ?_
          refine gi_const hC (v := 1) dX4_many_20 (by decide) ?_
          refine gi_iadd hC dX4_many_21 ?_
          rw [nI_1]
          refine gi_goto hC 26 dX4_many_22 (by decide) ?_
          refine gi_istn_1 hC dX4_many_26 (by decide) ?_
          refine gi_iinc_2 hC dX4_many_27 (nI_1 i) (by decide) ?_
          refine gi_goto hC 4 dX4_many_30 (by decide) ?_
          exact ih (i + 1) (c + 1) (by omega) hw
  refine gi_const hC (v := 0) dX4_many_0 (by decide) ?_
  refine gi_istn_1 hC dX4_many_1 (by decide) ?_
  refine gi_const hC (v := 0) dX4_many_2 (by decide) ?_
  refine gi_istn_2 hC dX4_many_3 (by decide) ?_
  exact L 24 0 0 rfl hZ
set_option maxHeartbeats 4000000 in
set_option maxRecDepth 100000 in
theorem c_X4_bitsOf (l : Launch) (E : gm_E) (σ : gm_S) (p : Nat) (hp : p < 2 ^ 31) : gm_MI l E yX4_bitsOf (.code yX4_bitsOf cX4_bitsOf 3 (some .int) :: gw_T) { frames := 0, cells := 0, slots := 0, locals := 0 } [.int (nI p)] σ (fun r σ2 => r = nI (bcn p) ∧ σ2 = σ) := by
  refine gm_enterI RX4 (by decide +kernel) rfl rfl (Nat.le_of_ble_eq_true rfl) (gm_c1_ok rfl) ?_
  intro X hC hR
  show gm_G X E 3 0 [some (.int (nI p)), none, none] [] σ
  obtain ⟨Z, hZ⟩ : ∃ Z, Z = cnt_lp (fun i => p.testBit i) 10 0 0 := ⟨_, rfl⟩
  rw [bcn, ← hZ] at hR
  have L : ∀ n i c, i + n = 10 → Z = cnt_lp (fun i => p.testBit i) n i c → gm_G X E 3 4 [some (.int (nI p)), some (.int (nI c)), some (.int (nI i))] [] σ := by
    intro n
    induction n with
    | zero =>
      intro i c hi0 hw
      have hi0 : i = 10 := by omega
      subst hi0
      rw [cnt_lp] at hw
      subst hw
      refine gi_ildn hC dX4_bitsOf_4 rfl ?_
      refine gi_bipush hC (v := 10) dX4_bitsOf_5 (by decide) ?_
      refine gi_icmp_ge hC 24 dX4_bitsOf_7 (by decide) (fun h1 => ?_) (fun h1 => ?_)
      ·
        refine gi_ildn hC dX4_bitsOf_24 rfl ?_
        exact hR _ _ _ _ rfl ⟨rfl, rfl⟩ dX4_bitsOf_25
      · exact absurd (Int32.le_refl _) h1
    | succ n ih =>
      intro i c hi0 hw
      rw [cnt_lp] at hw
      refine gi_ildn hC dX4_bitsOf_4 rfl ?_
      refine gi_bipush hC (v := 10) dX4_bitsOf_5 (by decide) ?_
      refine gi_icmp_ge hC 24 dX4_bitsOf_7 (by decide) (fun h1 => ?_) (fun h1 => ?_)
      · exact absurd h1 (nI_ge (a := i) (b := 10) (by omega) (by omega))
      ·
        refine gi_ildn hC dX4_bitsOf_10 rfl ?_
        refine gi_ildn hC dX4_bitsOf_11 rfl ?_
        refine gi_ildn hC dX4_bitsOf_12 rfl ?_
        refine gi_ishr hC dX4_bitsOf_13 ?_
        refine gi_const hC (v := 1) dX4_bitsOf_14 (by decide) ?_
        refine gi_iand hC dX4_bitsOf_15 ?_
        rw [bm_tst (bm_nI hp) (by omega)]
        by_cases hb : p.testBit i = true
        ·
          rw [if_pos hb] at hw ⊢
          refine gi_iadd hC dX4_bitsOf_16 ?_
          rw [nI_1]
          refine gi_istn_1 hC dX4_bitsOf_17 (by decide) ?_
          refine gi_iinc_2 hC dX4_bitsOf_18 (nI_1 i) (by decide) ?_
          refine gi_goto hC 4 dX4_bitsOf_21 (by decide) ?_
          exact ih (i + 1) (c + 1) (by omega) hw
        ·
          rw [if_neg hb] at hw ⊢
          refine gi_iadd hC dX4_bitsOf_16 ?_
          rw [Int32.add_zero]
          refine gi_istn_1 hC dX4_bitsOf_17 (by decide) ?_
          refine gi_iinc_2 hC dX4_bitsOf_18 (nI_1 i) (by decide) ?_
          refine gi_goto hC 4 dX4_bitsOf_21 (by decide) ?_
          exact ih (i + 1) c (by omega) hw
  refine gi_const hC (v := 0) dX4_bitsOf_0 (by decide) ?_
  refine gi_istn_1 hC dX4_bitsOf_1 (by decide) ?_
  refine gi_const hC (v := 0) dX4_bitsOf_2 (by decide) ?_
  refine gi_istn_2 hC dX4_bitsOf_3 (by decide) ?_
  exact L 10 0 0 rfl hZ
set_option maxHeartbeats 4000000 in
set_option maxRecDepth 100000 in
theorem c_X4_within (l : Launch) (E : gm_E) (σ : gm_S) (U V : Nat → Nat) (hE : mE σ U V) (x : Int32) (S : Nat → Bool) (hx : bm x S) (p : Nat) (hp : p < 2 ^ 31) (ab : Option (Nat × Nat)) (hab : ab10 ab) : gm_MI l E yX4_within (.code yX4_within cX4_within 8 (some .int) :: gw_T) { frames := 0, cells := 0, slots := 0, locals := 0 } [.ref (E.2.2 5), .int x, .int (nI p), .int (abI ab).1, .int (abI ab).2] σ (fun r σ2 => r = nI (wcn U V S p ab) ∧ σ2 = σ) := by
  refine gm_enterI RX4 (by decide +kernel) rfl rfl (Nat.le_of_ble_eq_true rfl) (gm_c1_ok rfl) ?_
  intro X hC hR
  show gm_G X E 8 0 [some (.ref (E.2.2 5)), some (.int x), some (.int (nI p)), some (.int (abI ab).1), some (.int (abI ab).2), none, none, none] [] σ
  have hbp := bm_nI hp
  obtain ⟨Z, hZ⟩ : ∃ Z, Z = wcn U V S p ab := ⟨_, rfl⟩
  rw [← hZ] at hR
  have L : ∀ n i c (w7 : Option Value), i + n = 24 → Z = cnt_lp (fun e => S e && p.testBit (U e) && p.testBit (V e)) n i c → gm_G X E 8 33 [some (.ref (E.2.2 5)), some (.int x), some (.int (nI p)), some (.int (abI ab).1), some (.int (abI ab).2), some (.int (nI c)), some (.int (nI i)), w7] [] σ := by
    intro n
    induction n with
    | zero =>
      intro i c w7 hi0 hw
      have hi0 : i = 24 := by omega
      subst hi0
      rw [cnt_lp] at hw
      subst hw
      refine gi_ild hC dX4_within_33 rfl ?_
      refine gi_bipush hC (v := 24) dX4_within_35 (by decide) ?_
      refine gi_icmp_ge hC 115 dX4_within_37 (by decide) (fun h1 => ?_) (fun h1 => ?_)
      ·
        refine gi_ild hC dX4_within_115 rfl ?_
        exact hR _ _ _ _ rfl ⟨rfl, rfl⟩ dX4_within_117
      · exact absurd (Int32.le_refl _) h1
    | succ n ih =>
      intro i c w7 hi0 hw
      rw [cnt_lp] at hw
      obtain ⟨e1, e2, e3, e4⟩ := hE i (by omega)
      have Y : ∀ w7 : Option Value, (S i && p.testBit (U i) && p.testBit (V i)) = true → gm_G X E 8 91 [some (.ref (E.2.2 5)), some (.int x), some (.int (nI p)), some (.int (abI ab).1), some (.int (abI ab).2), some (.int (nI c)), some (.int (nI i)), w7] [.int 1] σ := by
        intro w7 hy
        rw [if_pos hy] at hw
        refine gi_ist_7 hC dX4_within_91 (by decide) ?_
        refine gi_ild hC dX4_within_93 rfl ?_
        refine gi_if_eq hC 105 dX4_within_95 (by decide) (fun h9 => ?_) (fun h9 => ?_)
        · exact absurd h9 (by decide)
        ·
          refine gi_ild hC dX4_within_98 rfl ?_
          refine gi_const hC (v := 1) dX4_within_100 (by decide) ?_
          refine gi_iadd hC dX4_within_101 ?_
          rw [nI_1]
          refine gi_goto hC 107 dX4_within_102 (by decide) ?_
          refine gi_ist_5 hC dX4_within_107 (by decide) ?_
          refine gi_iinc_6 hC dX4_within_109 (nI_1 i) (by decide) ?_
          refine gi_goto hC 33 dX4_within_112 (by decide) ?_
          exact ih (i + 1) (c + 1) _ (by omega) hw
      have N : ∀ w7 : Option Value, ¬ (S i && p.testBit (U i) && p.testBit (V i)) = true → gm_G X E 8 90 [some (.ref (E.2.2 5)), some (.int x), some (.int (nI p)), some (.int (abI ab).1), some (.int (abI ab).2), some (.int (nI c)), some (.int (nI i)), w7] [] σ := by
        intro w7 hy
        rw [if_neg hy] at hw
        refine gi_const hC (v := 0) dX4_within_90 (by decide) ?_
        refine gi_ist_7 hC dX4_within_91 (by decide) ?_
        refine gi_ild hC dX4_within_93 rfl ?_
        refine gi_if_eq hC 105 dX4_within_95 (by decide) (fun h9 => ?_) (fun h9 => ?_)
        ·
          refine gi_ild hC dX4_within_105 rfl ?_
          refine gi_ist_5 hC dX4_within_107 (by decide) ?_
          refine gi_iinc_6 hC dX4_within_109 (nI_1 i) (by decide) ?_
          refine gi_goto hC 33 dX4_within_112 (by decide) ?_
          exact ih (i + 1) c _ (by omega) hw
        · exact absurd rfl h9
      refine gi_ild hC dX4_within_33 rfl ?_
      refine gi_bipush hC (v := 24) dX4_within_35 (by decide) ?_
      refine gi_icmp_ge hC 115 dX4_within_37 (by decide) (fun h1 => ?_) (fun h1 => ?_)
      · exact absurd h1 (nI_ge (a := i) (b := 24) (by omega) (by omega))
      ·
        refine gi_ildn hC dX4_within_40 rfl ?_
        refine gi_ild hC dX4_within_41 rfl ?_
        refine gi_ishr hC dX4_within_43 ?_
        refine gi_const hC (v := 1) dX4_within_44 (by decide) ?_
        refine gi_iand hC dX4_within_45 ?_
        refine gi_const hC (v := 1) dX4_within_46 (by decide) ?_
        rw [bm_tst hx (by omega)]
        refine gi_icmp_ne hC 90 dX4_within_47 (by decide) (fun h2 => ?_) (fun h2 => ?_)
        · exact N _ (fun z => h2 (by simp at z; rw [if_pos z.1.1]))
        ·
          have s1 : S i = true := by
            cases hb : S i
            · rw [hb] at h2; exact absurd h2 (by decide)
            · rfl
          refine gi_ildn hC dX4_within_50 rfl ?_
          refine gi_aldn hC dX4_within_51 rfl ?_
          refine gf_M_ends hC gw_317 dX4_within_52 ?_
          refine gi_const hC (v := 2) dX4_within_55 (by decide) ?_
          refine gi_ild hC dX4_within_56 rfl ?_
          refine gi_imul hC dX4_within_58 ?_
          refine gi_iald hC (gm_i6 E) (j := 2 * i) (by omega) (by rw [show (2 : Int32) = nI 2 from rfl, pk_mul]) (by first | decide | omega) dX4_within_59 ?_
          rw [e1]
          refine gi_ishr hC dX4_within_60 ?_
          refine gi_const hC (v := 1) dX4_within_61 (by decide) ?_
          refine gi_iand hC dX4_within_62 ?_
          refine gi_const hC (v := 1) dX4_within_63 (by decide) ?_
          rw [bm_tst hbp (by omega)]
          refine gi_icmp_ne hC 90 dX4_within_64 (by decide) (fun h3 => ?_) (fun h3 => ?_)
          · exact N _ (fun z => h3 (by simp at z; rw [if_pos z.1.2]))
          ·
            have s2 : p.testBit (U i) = true := by
              cases hb : p.testBit (U i)
              · rw [hb] at h3; exact absurd h3 (by decide)
              · rfl
            refine gi_ildn hC dX4_within_67 rfl ?_
            refine gi_aldn hC dX4_within_68 rfl ?_
            refine gf_M_ends hC gw_317 dX4_within_69 ?_
            refine gi_const hC (v := 2) dX4_within_72 (by decide) ?_
            refine gi_ild hC dX4_within_73 rfl ?_
            refine gi_imul hC dX4_within_75 ?_
            refine gi_const hC (v := 1) dX4_within_76 (by decide) ?_
            refine gi_iadd hC dX4_within_77 ?_
            refine gi_iald hC (gm_i6 E) (j := 2 * i + 1) (by omega) (by rw [show (2 : Int32) = nI 2 from rfl, pk_mul, nI_1]) (by first | decide | omega) dX4_within_78 ?_
            rw [e2]
            refine gi_ishr hC dX4_within_79 ?_
            refine gi_const hC (v := 1) dX4_within_80 (by decide) ?_
            refine gi_iand hC dX4_within_81 ?_
            refine gi_const hC (v := 1) dX4_within_82 (by decide) ?_
            rw [bm_tst hbp (by omega)]
            refine gi_icmp_ne hC 90 dX4_within_83 (by decide) (fun h4 => ?_) (fun h4 => ?_)
            · exact N _ (fun z => h4 (by simp at z; rw [if_pos z.2]))
            ·
              have s3 : p.testBit (V i) = true := by
                cases hb : p.testBit (V i)
                · rw [hb] at h4; exact absurd h4 (by decide)
                · rfl
              refine gi_const hC (v := 1) dX4_within_86 (by decide) ?_
              refine gi_goto hC 91 dX4_within_87 (by decide) ?_
              exact Y _ (by rw [s1, s2, s3]; rfl)
  have ST : ∀ c (w5 w6 w7 : Option Value), c = m0 p ab → gm_G X E 8 28 [some (.ref (E.2.2 5)), some (.int x), some (.int (nI p)), some (.int (abI ab).1), some (.int (abI ab).2), w5, w6, w7] [.int (nI c)] σ := by
    intro c w5 w6 w7 hc
    refine gi_ist_5 hC dX4_within_28 (by decide) ?_
    refine gi_const hC (v := 0) dX4_within_30 (by decide) ?_
    refine gi_ist_6 hC dX4_within_31 (by decide) ?_
    exact L 24 0 c _ rfl (by rw [hZ, wcn, hc])
  cases ab with
  | none =>
    refine gi_ildn hC dX4_within_0 rfl ?_
    refine gi_if_lt hC 27 dX4_within_1 (by decide) (fun h1 => ?_) (fun h1 => ?_)
    ·
      refine gi_const hC (v := 0) dX4_within_27 (by decide) ?_
      exact ST 0 _ _ _ rfl
    · exact absurd (by show (-1 : Int32) < 0; decide) h1
  | some w =>
    obtain ⟨a, b⟩ := w
    obtain ⟨ha, hb⟩ := hab a b rfl
    refine gi_ildn hC dX4_within_0 rfl ?_
    refine gi_if_lt hC 27 dX4_within_1 (by decide) (fun h1 => ?_) (fun h1 => ?_)
    · exact absurd h1 (nI_pos (n := a) (by omega))
    ·
      refine gi_ildn hC dX4_within_4 rfl ?_
      refine gi_ildn hC dX4_within_5 rfl ?_
      refine gi_ishr hC dX4_within_6 ?_
      refine gi_const hC (v := 1) dX4_within_7 (by decide) ?_
      refine gi_iand hC dX4_within_8 ?_
      refine gi_const hC (v := 1) dX4_within_9 (by decide) ?_
      rw [show ((nI p >>> ((abI (some (a, b))).1 &&& 31)) &&& 1) = if p.testBit a then 1 else 0 from bm_tst hbp (by omega)]
      refine gi_icmp_ne hC 27 dX4_within_10 (by decide) (fun h2 => ?_) (fun h2 => ?_)
      ·
        refine gi_const hC (v := 0) dX4_within_27 (by decide) ?_
        exact ST 0 _ _ _ (by rw [m0, if_neg]; exact fun z => h2 (by rw [if_pos z.1]))
      ·
        have s2 : p.testBit a = true := by
          cases hq : p.testBit a
          · rw [hq] at h2; exact absurd h2 (by decide)
          · rfl
        refine gi_ildn hC dX4_within_13 rfl ?_
        refine gi_ild hC dX4_within_14 rfl ?_
        refine gi_ishr hC dX4_within_16 ?_
        refine gi_const hC (v := 1) dX4_within_17 (by decide) ?_
        refine gi_iand hC dX4_within_18 ?_
        refine gi_const hC (v := 1) dX4_within_19 (by decide) ?_
        rw [show ((nI p >>> ((abI (some (a, b))).2 &&& 31)) &&& 1) = if p.testBit b then 1 else 0 from bm_tst hbp (by omega)]
        refine gi_icmp_ne hC 27 dX4_within_20 (by decide) (fun h3 => ?_) (fun h3 => ?_)
        ·
          refine gi_const hC (v := 0) dX4_within_27 (by decide) ?_
          exact ST 0 _ _ _ (by rw [m0, if_neg]; exact fun z => h3 (by rw [if_pos z.2]))
        ·
          have s3 : p.testBit b = true := by
            cases hq : p.testBit b
            · rw [hq] at h3; exact absurd h3 (by decide)
            · rfl
          refine gi_const hC (v := 1) dX4_within_23 (by decide) ?_
          refine gi_goto hC 28 dX4_within_24 (by decide) ?_
          exact ST 1 _ _ _ (by rw [m0, if_pos ⟨s2, s3⟩])
set_option maxHeartbeats 4000000 in
set_option maxRecDepth 100000 in
theorem c_X4_fits (l : Launch) (E : gm_E) (σ : gm_S) (n : Nat) (hn1 : 1 ≤ n) (hn : n ≤ 10) (h3 : σ.1 5 0 = nI n) (U V : Nat → Nat) (hE : mE σ U V) (x : Int32) (S : Nat → Bool) (hx : bm x S) (k : Nat) (hk : k < 7) (ab : Option (Nat × Nat)) (hab : ab10 ab) : gm_MI l E yX4_fits (.code yX4_fits cX4_fits 6 (some .boolean) :: gw_T) { frames := 1, cells := 0, slots := 0, locals := 27 } [.ref (E.2.2 5), .int x, .int (nI k), .int (abI ab).1, .int (abI ab).2] σ (fun r σ2 => r = (if ftb n U V S k ab = true then 1 else 0) ∧ σ2 = σ) := by
  refine gm_enterI RX4 (by decide +kernel) rfl rfl (Nat.le_of_ble_eq_true rfl) (gm_c1_ok rfl) ?_
  intro X hC hR
  show gm_G X E 6 0 [some (.ref (E.2.2 5)), some (.int x), some (.int (nI k)), some (.int (abI ab).1), some (.int (abI ab).2), none] [] σ
  have hpw : 2 ^ n ≤ 1024 := Nat.pow_le_pow_right (n := 2) (i := n) (j := 10) (by omega) hn
  have hsh : (1 : Int32) <<< (nI n &&& 31) = nI (2 ^ n) := by
    have := pk_shlN (n := 1) (nI n &&& 31) n (s_l n (by omega)) (by omega)
    rw [Nat.one_mul] at this
    exact this
  have L : ∀ m p, p + m = 2 ^ n → 1 ≤ p → (∀ q, 1 ≤ q → q < p → wcn U V S q ab ≤ k * (bcn q - 1)) → gm_G X E 6 3 [some (.ref (E.2.2 5)), some (.int x), some (.int (nI k)), some (.int (abI ab).1), some (.int (abI ab).2), some (.int (nI p))] [] σ := by
    intro m
    induction m with
    | zero =>
      intro p hp h1 hw
      have hp : p = 2 ^ n := by omega
      subst hp
      refine gi_ild hC dX4_fits_3 rfl ?_
      refine gi_const hC (v := 1) dX4_fits_5 (by decide) ?_
      refine gi_aldn hC dX4_fits_6 rfl ?_
      refine gf_M_n hC gw_316 dX4_fits_7 ?_
      rw [h3]
      refine gi_ishl hC dX4_fits_10 ?_
      rw [hsh]
      refine gi_icmp_ge hC 44 dX4_fits_11 (by decide) (fun h4 => ?_) (fun h4 => ?_)
      ·
        refine gi_const hC (v := 1) dX4_fits_44 (by decide) ?_
        exact hR _ _ _ _ (by decide +kernel) ⟨by rw [if_pos (ftb_iff.mpr hw)], rfl⟩ dX4_fits_45
      · exact absurd (Int32.le_refl _) h4
    | succ m ih =>
      intro p hp h1 hw
      have hb1 := bcn_pos h1 (show p < 1024 by omega)
      have hb2 : bcn p ≤ 10 := by have := cnt_lp_le (fun i => p.testBit i) 10 0 0; unfold bcn; omega
      have hw25 : wcn U V S p ab ≤ 25 := by
        have h9 := cnt_lp_le (fun e => S e && p.testBit (U e) && p.testBit (V e)) 24 0 (m0 p ab)
        have h8 : m0 p ab ≤ 1 := by
          unfold m0
          split
          · omega
          · split <;> omega
        unfold wcn
        omega
      have hkb : k * (bcn p - 1) ≤ 6 * 9 := Nat.mul_le_mul (by omega) (by omega)
      refine gi_ild hC dX4_fits_3 rfl ?_
      refine gi_const hC (v := 1) dX4_fits_5 (by decide) ?_
      refine gi_aldn hC dX4_fits_6 rfl ?_
      refine gf_M_n hC gw_316 dX4_fits_7 ?_
      rw [h3]
      refine gi_ishl hC dX4_fits_10 ?_
      rw [hsh]
      refine gi_icmp_ge hC 44 dX4_fits_11 (by decide) (fun h4 => ?_) (fun h4 => ?_)
      · exact absurd h4 (nI_ge (a := p) (b := 2 ^ n) (by omega) (by omega))
      ·
        refine gi_aldn hC dX4_fits_14 rfl ?_
        refine gi_ildn hC dX4_fits_15 rfl ?_
        refine gi_ild hC dX4_fits_16 rfl ?_
        refine gi_ildn hC dX4_fits_18 rfl ?_
        refine gi_ild hC dX4_fits_19 rfl ?_
        refine gk_VI (n := 4) hC (fun l => c_X4_within l E σ U V hE x S hx p (by omega) ab hab) (gm_o4 E) rfl (gw_V gw_393 gw_395 gw_13 gw_28 gw_396) rfl ⟨rfl, rfl⟩ rfl (by decide +kernel) ⟨by decide, by decide⟩ (Nat.le_of_ble_eq_true rfl) dX4_fits_21 (fun r σ1 h5 => ?_)
        obtain ⟨rfl, rfl⟩ := h5
        refine gi_ildn hC dX4_fits_24 rfl ?_
        refine gi_ild hC dX4_fits_25 rfl ?_
        refine gk_SI (n := 1) hC (fun l => c_X4_bitsOf l E σ1 p (by omega)) (gw_S gw_397 gw_398 gw_28 gw_399) rfl ⟨rfl, rfl⟩ rfl (by decide +kernel) ⟨by decide, by decide⟩ (Nat.le_of_ble_eq_true rfl) dX4_fits_27 (fun r2 σ2 h6 => ?_)
        obtain ⟨rfl, rfl⟩ := h6
        refine gi_const hC (v := 1) dX4_fits_30 (by decide) ?_
        refine gi_isub hC dX4_fits_31 ?_
        refine gi_imul hC dX4_fits_32 ?_
        rw [show nI (bcn p) - 1 = nI (bcn p - 1) from by rw [show (1 : Int32) = nI 1 from rfl, pk_sub hb1], pk_mul]
        refine gi_icmp_le hC 38 dX4_fits_33 (by decide) (fun h7 => ?_) (fun h7 => ?_)
        ·
          refine gi_iinc_5 hC dX4_fits_38 (nI_1 p) (by decide) ?_
          refine gi_goto hC 3 dX4_fits_41 (by decide) ?_
          rw [nI_leI (by omega) (by omega)] at h7
          exact ih (p + 1) (by omega) (by omega) (fun q q1 q2 => by
            by_cases e : q = p
            · subst e; exact h7
            · exact hw q q1 (by omega))
        ·
          refine gi_const hC (v := 0) dX4_fits_36 (by decide) ?_
          rw [nI_leI (by omega) (by omega)] at h7
          exact hR _ _ _ _ (by decide +kernel) ⟨by rw [if_neg]; exact fun z => h7 (ftb_iff.mp z p h1 (by omega)), rfl⟩ dX4_fits_37
  have h2n : 1 ≤ 2 ^ n := Nat.one_le_two_pow
  refine gi_const hC (v := 1) dX4_fits_0 (by decide) ?_
  refine gi_ist_5 hC dX4_fits_1 (by decide) ?_
  exact L (2 ^ n - 1) 1 (by omega) (Nat.le_refl 1) (fun q q1 q2 => by omega)
