/-! THE PACKER: invariant, frames -/
section GSW
variable {X : gm_X} {E : gm_E} {cc : ByteArray} {nL pc : Nat} {own : String} {Ts : List Cond} {rm : Room} {lo : List (Option Value)} {st : List Value} {σ : gm_S}
theorem gi_tsOut (hC : gm_ok X E cc nL own Ts rm) {dflt l0 hi : Int} {offs : Array Int} {len : Nat} {x : Int32} (tgt : Nat) (d : decode cc pc = .ok (.tableswitch dflt l0 hi offs, len)) (h : x.toInt < l0 ∨ hi < x.toInt) (ht : (pc : Int) + dflt = (tgt : Int)) (k : gm_G X E nL tgt lo st σ) : gm_G X E nL pc lo (.int x :: st) σ := by
  obtain ⟨p, l, e, R, s, m, args, below, meth, c, cells, slots, Q, A⟩ := X
  intro H locs ls hP hD hS hl
  exact lv_tableOut hC.1 hC.2.1 d h ht (k H locs ls hP hD hS hl)
theorem gi_tsIn (hC : gm_ok X E cc nL own Ts rm) {dflt hi off : Int} {offs : Array Int} {len j : Nat} (tgt : Nat) (d : decode cc pc = .ok (.tableswitch dflt 0 hi offs, len)) (hj : j < 2 ^ 31) (h2 : ¬ hi < (j : Int)) (ho : offs[j]? = some off) (ht : (pc : Int) + off = (tgt : Int)) (k : gm_G X E nL tgt lo st σ) : gm_G X E nL pc lo (.int (nI j) :: st) σ := by
  obtain ⟨p, l, e, R, s, m, args, below, meth, c, cells, slots, Q, A⟩ := X
  intro H locs ls hP hD hS hl
  have hz := nI_toInt hj
  exact lv_tableIn hC.1 hC.2.1 d (by rw [hz]; omega) (by rw [hz]; exact h2) (by rw [hz]; simpa using ho) ht (k H locs ls hP hD hS hl)
end GSW
def gG (σ : gm_S) (n : Nat) (ps : Nat → Bool) (U V : Nat → Nat) : Prop := 1 ≤ n ∧ n ≤ 10 ∧ σ.1 1 3 = nI n ∧ bm (σ.1 1 2) ps ∧ (∀ e, 24 ≤ e → ps e = false) ∧ gL σ U V ∧ ∀ e, ps e = true → U e < V e ∧ V e < n
/-- what a packing's state comes from: packed anew, and settled since or not -/
def pkd (k : Nat) (U V : Nat → Nat) (ps : Nat → Bool) (q : pq) (sz : Nat) (b : Prop) : Prop := (¬ b ∧ ∃ fo fo2, pk_lp k U V ps 24 0 (pq0, 0, fo) = (q, sz, fo2)) ∨ (b ∧ ∃ q0 fo fo2 fo3 fo4, pk_lp k U V ps 24 0 (pq0, 0, fo) = (q0, sz, fo2) ∧ st_out k U V ps 24 0 (fun _ => false) (q0, fo3) = (q, fo4))
def kP (σ : gm_S) (U V : Nat → Nat) (ps : Nat → Bool) (k : Nat) (q : pq) (sz : Nat) (fol : Nat → Option Nat) : Prop := σ.1 (gm_P k) 5 = 0 ∧ fo_rep σ k fol ∧ (σ.1 (gm_P k) 4 = 0 ∨ σ.1 (gm_P k) 4 = 1) ∧ σ.1 (gm_P k) 2 = 1 ∧ pk_rep σ k q ∧ σ.1 (gm_P k) 1 = nI sz ∧ pkd k U V ps q sz (σ.1 (gm_P k) 4 = 1)
def kJ (σ : gm_S) (k : Nat) : Prop := σ.1 (gm_P k) 5 = 0 ∧ (∃ fol, fo_rep σ k fol) ∧ (σ.1 (gm_P k) 4 = 0 ∨ σ.1 (gm_P k) 4 = 1)
def kI (σ : gm_S) (U V : Nat → Nat) (ps : Nat → Bool) (k : Nat) : Prop := (kJ σ k ∧ σ.1 (gm_P k) 2 = 0) ∨ ∃ q sz fol, kP σ U V ps k q sz fol
def kInv (σ : gm_S) (n : Nat) (ps : Nat → Bool) (U V : Nat → Nat) : Prop := gG σ n ps U V ∧ ∀ k, k < 7 → kI σ U V ps k
/-- the class writes nothing of the reference -/
def kFR (σ σ2 : gm_S) : Prop := gm_fr σ σ2 (fun x _ => x ≠ 5) (fun y => ¬ (6 ≤ y ∧ y ≤ 14))
theorem kFR_rf {σ : gm_S} : kFR σ σ := gm_fr_rf
theorem kFR_tr {σ σ2 σ3 : gm_S} (h : kFR σ σ2) (g : kFR σ2 σ3) : kFR σ σ3 := gm_fr_tr h g
theorem kFR_blk {σ σ2 : gm_S} {k : Nat} {F : Nat → Nat → Prop} (hF : ∀ x j, F x j → x = gm_P k) (h : gm_fr σ σ2 F (mv_R k)) : kFR σ σ2 := gm_fr_mono h (fun x j hx => by have := hF x j hx; unfold gm_P at this; omega) (fun y hy => by unfold mv_R gm_P at hy; omega)
theorem gG_blk {σ σ2 : gm_S} {k n : Nat} {ps : Nat → Bool} {U V : Nat → Nat} {F : Nat → Nat → Prop} (hF : ∀ x j, F x j → x = gm_P k) (h : gm_fr σ σ2 F (mv_R k)) (g : gG σ n ps U V) : gG σ2 n ps U V := by
  obtain ⟨h1, h2, h3, h4, h5, h6, h7⟩ := g
  have hn : ∀ j, ¬ F 1 j := fun j hx => by have := hF 1 j hx; unfold gm_P at this; omega
  exact ⟨h1, h2, by rw [h.1 1 3 (hn 3)]; exact h3, by rw [h.1 1 2 (hn 2)]; exact h4, h5, gL_mv h h6, h7⟩
theorem kI_oth {σ σ2 : gm_S} {k k2 : Nat} {ps : Nat → Bool} {U V : Nat → Nat} {F : Nat → Nat → Prop} (hF : ∀ x j, F x j → x = gm_P k) (h : gm_fr σ σ2 F (mv_R k)) (hk2 : k2 < 7) (hne : k2 ≠ k) (g : kI σ U V ps k2) : kI σ2 U V ps k2 := by
  have hf : ∀ j, σ2.1 (gm_P k2) j = σ.1 (gm_P k2) j := fun j => h.1 _ _ (fun hx => by have := hF _ j hx; unfold gm_P at this; omega)
  have hr : ∀ r, r < 30 → σ2.2 (gm_P k2 + r) = σ.2 (gm_P k2 + r) := fun r hr => h.2 _ (fun hy => by unfold mv_R gm_P at hy; omega)
  have hfo : ∀ fol, fo_rep σ k2 fol → fo_rep σ2 k2 fol := fun fol z e he => by rw [hr 3 (by omega)]; exact z e he
  rcases g with ⟨⟨g1, ⟨fol, g2⟩, g3⟩, g4⟩ | ⟨q, sz, fol, g1, g2, g3, g4, g5, g6, g7⟩
  · exact Or.inl ⟨⟨by rw [hf]; exact g1, ⟨fol, hfo fol g2⟩, by rw [hf]; exact g3⟩, by rw [hf]; exact g4⟩
  · refine Or.inr ⟨q, sz, fol, by rw [hf]; exact g1, hfo fol g2, by rw [hf]; exact g3, by rw [hf]; exact g4, pk_fr hk2 (fun y hy => ?_) g5, by rw [hf]; exact g6, by rw [hf]; exact g7⟩
    obtain ⟨r, rfl, hr2⟩ : ∃ r, y = gm_P k2 + r ∧ r < 30 := ⟨y - gm_P k2, by unfold pk_R at hy; omega, by unfold pk_R at hy; omega⟩
    exact hr r hr2
theorem kInv_up {σ σ2 : gm_S} {k n : Nat} {ps : Nat → Bool} {U V : Nat → Nat} {F : Nat → Nat → Prop} (hF : ∀ x j, F x j → x = gm_P k) (h : gm_fr σ σ2 F (mv_R k)) (g : kInv σ n ps U V) (hk : kI σ2 U V ps k) : kInv σ2 n ps U V := ⟨gG_blk hF h g.1, fun k2 hk2 => by
  by_cases e : k2 = k
  · subst e; exact hk
  · exact kI_oth hF h hk2 e (g.2 k2 hk2)⟩
theorem kP_sr {σ σ2 : gm_S} {k sz : Nat} {ps : Nat → Bool} {U V : Nat → Nat} {q : pq} {fol fol2 : Nat → Option Nat} (hk : k < 7) (h : gm_fr σ σ2 (sr_F k) (sr_R k)) (g : kP σ U V ps k q sz fol) (hf : fo_rep σ2 k fol2) : kP σ2 U V ps k q sz fol2 := by
  have e : ∀ j, ¬ (j = 6 ∨ j = 8 ∨ j = 10 ∨ j = 11) → σ2.1 (gm_P k) j = σ.1 (gm_P k) j := fun j hj => h.1 _ _ (fun z => hj z.2)
  obtain ⟨g1, g2, g3, g4, g5, g6, g7⟩ := g
  exact ⟨by rw [e 5 (by decide)]; exact g1, hf, by rw [e 4 (by decide)]; exact g3, by rw [e 2 (by decide)]; exact g4, pk_sr hk h g5, by rw [e 1 (by decide)]; exact g6, by rw [e 4 (by decide)]; exact g7⟩
theorem sr_blk {k : Nat} : ∀ x j, sr_F k x j → x = gm_P k := fun _ _ h => h.1
theorem st_blk {k : Nat} : ∀ x j, st_F k x j → x = gm_P k := fun _ _ h => h.1
theorem bl_blk {k : Nat} : ∀ x j, blk_F k x j → x = gm_P k := fun _ _ h => h
theorem nI_k6 {k : Int32} : (¬ k < 0 ∧ ¬ (6 : Int32) < k) ↔ ∃ j, j < 7 ∧ k = nI j := by
  constructor
  · rintro ⟨h1, h2⟩
    obtain ⟨j, hj, rfl⟩ := nI_of h1
    rw [show (6 : Int32) = nI 6 from rfl, nI_ltI (by omega) hj] at h2
    exact ⟨j, by omega, rfl⟩
  · rintro ⟨j, hj, rfl⟩
    exact ⟨nI_pos (by omega), by rw [show (6 : Int32) = nI 6 from rfl, nI_ltI (by omega) (by omega)]; omega⟩
theorem nI_vx {v : Int32} {n : Nat} (hn : n ≤ 10) : (¬ v < 0 ∧ ¬ nI n ≤ v) ↔ ∃ j, j < n ∧ v = nI j := by
  constructor
  · rintro ⟨h1, h2⟩
    obtain ⟨j, hj, rfl⟩ := nI_of h1
    rw [nI_leI (by omega) hj] at h2
    exact ⟨j, by omega, rfl⟩
  · rintro ⟨j, hj, rfl⟩
    exact ⟨nI_pos (by omega), by rw [nI_leI (by omega) (by omega)]; omega⟩
theorem gwc_min : Cond.code Lib.Math.min.name Lib.Math.min.code 2 (some .int) ∈ gw_T := gw_of 172 (by decide +kernel) (by decide +kernel)
theorem gws_min : Cond.static Lib.Math.min.name ∈ gw_T := gw_of 171 (by decide +kernel) (by decide +kernel)
theorem gwl_min_X3 : Cond.methodLink RX3 50 Lib.Math.min.name ∈ gw_T := gw_of 170 (by decide +kernel) (by decide +kernel)
theorem gk_min {X : gm_X} {E : gm_E} {cc : ByteArray} {nL pc idx : Nat} {own : String} {c0 : Cond} {rm : Room} {lo : List (Option Value)} {st : List Value} {σ : gm_S} (hC : gm_ok X E cc nL own (c0 :: gw_T) rm) {x y : Int32} (hlk : Cond.methodLink own idx Lib.Math.min.name ∈ gw_T) (hf : 1 ≤ rm.frames) (hlo : (st.map fun v => v.category).sum + 13 ≤ rm.locals) (d : decode cc pc = .ok (.invokestatic idx, 3)) (k : gm_G X E nL (pc + 3) lo (.int (if y < x then y else x) :: st) σ) : gm_G X E nL pc lo (.int y :: .int x :: st) σ := by
  obtain ⟨p, l, e, R, s, m, args, below, meth, c, cells, slots, Q, A⟩ := X
  intro H locs ls hP hD hS hl
  obtain ⟨hx, hb, hml, hown, hts, hK, hRm, hnm, hA, hlk2, hcs, hss⟩ := hC
  subst hRm
  exact va_mmin hx hb (hml.trans hl.1.symm) hown (hts _ (List.mem_cons_of_mem _ hlk)) (hts _ (List.mem_cons_of_mem _ gws_min)) (hts _ (List.mem_cons_of_mem _ gw_26)) (hts _ (List.mem_cons_of_mem _ gwc_min)) hf hlo hcs hss d (k H locs ls hP hD hS hl)
theorem gwc_max : Cond.code Lib.Math.max.name Lib.Math.max.code 2 (some .int) ∈ gw_T := gw_of 74 (by decide +kernel) (by decide +kernel)
theorem gws_max : Cond.static Lib.Math.max.name ∈ gw_T := gw_of 73 (by decide +kernel) (by decide +kernel)
theorem gwl_max_X1 : Cond.methodLink RX1 47 Lib.Math.max.name ∈ gw_T := gw_of 72 (by decide +kernel) (by decide +kernel)
theorem gwl_max_X3 : Cond.methodLink RX3 59 Lib.Math.max.name ∈ gw_T := gw_of 173 (by decide +kernel) (by decide +kernel)
theorem gk_max {X : gm_X} {E : gm_E} {cc : ByteArray} {nL pc idx : Nat} {own : String} {c0 : Cond} {rm : Room} {lo : List (Option Value)} {st : List Value} {σ : gm_S} (hC : gm_ok X E cc nL own (c0 :: gw_T) rm) {x y : Int32} (hlk : Cond.methodLink own idx Lib.Math.max.name ∈ gw_T) (hf : 1 ≤ rm.frames) (hlo : (st.map fun v => v.category).sum + 13 ≤ rm.locals) (d : decode cc pc = .ok (.invokestatic idx, 3)) (k : gm_G X E nL (pc + 3) lo (.int (if x < y then y else x) :: st) σ) : gm_G X E nL pc lo (.int y :: .int x :: st) σ := by
  obtain ⟨p, l, e, R, s, m, args, below, meth, c, cells, slots, Q, A⟩ := X
  intro H locs ls hP hD hS hl
  obtain ⟨hx, hb, hml, hown, hts, hK, hRm, hnm, hA, hlk2, hcs, hss⟩ := hC
  subst hRm
  exact va_mmax hx hb (hml.trans hl.1.symm) hown (hts _ (List.mem_cons_of_mem _ hlk)) (hts _ (List.mem_cons_of_mem _ gws_max)) (hts _ (List.mem_cons_of_mem _ gw_26)) (hts _ (List.mem_cons_of_mem _ gwc_max)) hf hlo hcs hss d (k H locs ls hP hD hS hl)
set_option maxHeartbeats 4000000 in
set_option maxRecDepth 100000 in
theorem c_X3_isForestCount (l : Launch) (E : gm_E) (σ : gm_S) (k : Int32) : gm_MI l E yX3_isForestCount (.code yX3_isForestCount cX3_isForestCount 1 (some .boolean) :: gw_T) { frames := 0, cells := 0, slots := 0, locals := 0 } [.int k] σ (fun r σ2 => (r = 1 ∧ (∃ j, j < 7 ∧ k = nI j) ∨ r = 0 ∧ ¬ ∃ j, j < 7 ∧ k = nI j) ∧ σ2 = σ) := by
  refine gm_enterI RX3 (by decide +kernel) rfl rfl (Nat.le_of_ble_eq_true rfl) (gm_c1_ok rfl) ?_
  intro X hC hR
  show gm_G X E 1 0 [some (.int k)] [] σ
  rw [← nI_k6] at hR
  refine gi_ildn hC dX3_isForestCount_0 rfl ?_
  refine gi_if_lt hC 14 dX3_isForestCount_1 (by decide) (fun h1 => ?_) (fun h1 => ?_)
  ·
    refine gi_const hC (v := 0) dX3_isForestCount_14 (by decide) ?_
    exact hR _ _ _ _ (by decide +kernel) ⟨Or.inr ⟨rfl, fun z => z.1 h1⟩, rfl⟩ dX3_isForestCount_15
  ·
    refine gi_ildn hC dX3_isForestCount_4 rfl ?_
    refine gi_bipush hC (v := 6) dX3_isForestCount_5 (by decide) ?_
    refine gi_icmp_gt hC 14 dX3_isForestCount_7 (by decide) (fun h2 => ?_) (fun h2 => ?_)
    ·
      refine gi_const hC (v := 0) dX3_isForestCount_14 (by decide) ?_
      exact hR _ _ _ _ (by decide +kernel) ⟨Or.inr ⟨rfl, fun z => z.2 h2⟩, rfl⟩ dX3_isForestCount_15
    ·
      refine gi_const hC (v := 1) dX3_isForestCount_10 (by decide) ?_
      refine gi_goto hC 15 dX3_isForestCount_11 (by decide) ?_
      exact hR _ _ _ _ (by decide +kernel) ⟨Or.inl ⟨rfl, h1, h2⟩, rfl⟩ dX3_isForestCount_15
set_option maxHeartbeats 4000000 in
set_option maxRecDepth 100000 in
theorem c_X3_forgetPackings (l : Launch) (E : gm_E) (σ : gm_S) : gm_MV l E yX3_forgetPackings (.code yX3_forgetPackings cX3_forgetPackings 2 none :: gw_T) { frames := 0, cells := 0, slots := 0, locals := 0 } [.ref (E.2.2 0)] σ (fun σ2 => gm_fr σ σ2 (fun x j => (∃ k, k < 7 ∧ x = gm_P k) ∧ j = 2) (fun _ => False) ∧ ∀ k, k < 7 → σ2.1 (gm_P k) 2 = 0) := by
  refine gm_enterV RX3 (by decide +kernel) rfl rfl (Nat.le_of_ble_eq_true rfl) (gm_c1_ok rfl) ?_
  intro X hC hR
  show gm_G X E 2 0 [some (.ref (E.2.2 0)), none] [] σ
  have L : ∀ n i (σ2 : gm_S), i + n = 7 → gm_fr σ σ2 (fun x j => (∃ k, k < 7 ∧ x = gm_P k) ∧ j = 2) (fun _ => False) → (∀ k, k < i → σ2.1 (gm_P k) 2 = 0) → gm_G X E 2 2 [some (.ref (E.2.2 0)), some (.int (nI i))] [] σ2 := by
    intro n
    induction n with
    | zero =>
      intro i σ2 hi0 hfr hz
      have hi0 : i = 7 := by omega
      subst hi0
      refine gi_ildn hC dX3_forgetPackings_2 rfl ?_
      refine gi_bipush hC (v := 6) dX3_forgetPackings_3 (by decide) ?_
      refine gi_icmp_gt hC 24 dX3_forgetPackings_5 (by decide) (fun h1 => ?_) (fun h1 => ?_)
      · exact hR _ _ _ ⟨hfr, hz⟩ dX3_forgetPackings_24
      · exact absurd (by decide) h1
    | succ n ih =>
      intro i σ2 hi0 hfr hz
      have hk : i < 7 := by omega
      refine gi_ildn hC dX3_forgetPackings_2 rfl ?_
      refine gi_bipush hC (v := 6) dX3_forgetPackings_3 (by decide) ?_
      refine gi_icmp_gt hC 24 dX3_forgetPackings_5 (by decide) (fun h1 => ?_) (fun h1 => ?_)
      · exact absurd h1 (nI_nlt (a := 6) (b := i) (by omega) (by omega))
      ·
        refine gi_aldn hC dX3_forgetPackings_8 rfl ?_
        refine gf_K_packings hC gw_130 dX3_forgetPackings_9 ?_
        refine gi_ildn hC dX3_forgetPackings_12 rfl ?_
        refine gi_aaldP hC hk rfl dX3_forgetPackings_13 ?_
        refine gi_const hC (v := 0) dX3_forgetPackings_14 (by decide) ?_
        refine pf_P_isPacked hC hk (Or.inl rfl) gw_94 dX3_forgetPackings_15 ?_
        refine gi_iinc_1 hC dX3_forgetPackings_18 (nI_1 i) (by decide) ?_
        refine gi_goto hC 2 dX3_forgetPackings_21 (by decide) ?_
        refine ih (i + 1) _ (by omega) (gm_fr_tr hfr (gm_fr_sc ⟨⟨i, hk, rfl⟩, rfl⟩)) (fun k hk2 => ?_)
        by_cases e : k = i
        · subst e; exact gm_sc_1 _ _ _ _
        · rw [gm_sc_n _ _ (fun z => e (by have := z.1; unfold gm_P at this; omega))]; exact hz k (by omega)
  refine gi_const hC (v := 0) dX3_forgetPackings_0 (by decide) ?_
  refine gi_istn_1 hC dX3_forgetPackings_1 (by decide) ?_
  exact L 7 0 σ rfl gm_fr_rf (fun k hk => absurd hk (Nat.not_lt_zero k))
set_option maxHeartbeats 4000000 in
set_option maxRecDepth 100000 in
theorem c_X3_packed (l : Launch) (E : gm_E) (σ : gm_S) (n : Nat) (ps : Nat → Bool) (U V : Nat → Nat) (hI : kInv σ n ps U V) (kk : Nat) (hk : kk < 7) : gm_MR l E yX3_packed (.code yX3_packed cX3_packed 3 (some (.object "ForestPacker$Packing")) :: gw_T) { frames := 4, cells := 0, slots := 0, locals := 100 } [.ref (E.2.2 0), .int (nI kk)] σ (gm_P kk) (fun σ2 => gm_fr σ σ2 (blk_F kk) (mv_R kk) ∧ ∃ q sz fol, kP σ2 U V ps kk q sz fol) := by
  refine gm_enterR RX3 (by decide +kernel) rfl (Or.inl ⟨_, rfl⟩) rfl (Nat.le_of_ble_eq_true rfl) (gm_c1_ok rfl) ?_
  intro X hC hR
  show gm_G X E 3 0 [some (.ref (E.2.2 0)), some (.int (nI kk)), none] [] σ
  obtain ⟨⟨g1, g2, g3, g4, g5, g6, g7⟩, hI2⟩ := hI
  refine gi_aldn hC dX3_packed_0 rfl ?_
  refine gf_K_packings hC gw_130 dX3_packed_1 ?_
  refine gi_ildn hC dX3_packed_4 rfl ?_
  refine gi_aaldP hC hk rfl dX3_packed_5 ?_
  refine gi_astn_2 hC dX3_packed_6 (by decide) ?_
  refine gi_aldn hC dX3_packed_7 rfl ?_
  refine gf_P_isPacked hC hk gw_94 dX3_packed_8 ?_
  rcases hI2 kk hk with ⟨⟨j1, ⟨fol, j2⟩, j3⟩, j4⟩ | ⟨q, sz, fol, hP⟩
  ·
    rw [j4]
    refine gi_if_ne hC 22 dX3_packed_11 (by decide) (fun h1 => ?_) (fun h1 => ?_)
    · exact absurd rfl h1
    ·
      refine gi_aldn hC dX3_packed_14 rfl ?_
      refine gi_aldn hC dX3_packed_15 rfl ?_
      refine gf_K_graph hC gw_129 dX3_packed_16 ?_
      refine gk_VV (n := 1) hC (fun l => c_X1_pack l E hk σ U V g6 ps g4 j1 fol j2) (gm_o1 E hk) rfl (gw_V gw_190 gw_191 gw_192 gw_25 gw_193) rfl ⟨rfl, rfl⟩ rfl (by decide +kernel) ⟨by decide, by decide⟩ (Nat.le_of_ble_eq_true rfl) dX3_packed_19 (fun σ2 h9 => ?_)
      obtain ⟨a1, a2, a3, a4, a5, a6, a7⟩ := h9
      refine gi_aldn hC dX3_packed_22 rfl ?_
      refine hR _ _ _ ⟨a1, (pk_lp kk U V ps 24 0 (pq0, 0, fol)).1, (pk_lp kk U V ps 24 0 (pq0, 0, fol)).2.1, (pk_lp kk U V ps 24 0 (pq0, 0, fol)).2.2, a7, a3, Or.inl a6, a5, a2, a4, ?_⟩ dX3_packed_23
      rw [a6]
      exact Or.inl ⟨by decide, fol, _, rfl⟩
  ·
    rw [hP.2.2.2.1]
    refine gi_if_ne hC 22 dX3_packed_11 (by decide) (fun h1 => ?_) (fun h1 => ?_)
    ·
      refine gi_aldn hC dX3_packed_22 rfl ?_
      exact hR _ _ _ ⟨gm_fr_rf, q, sz, fol, hP⟩ dX3_packed_23
    · exact absurd h1 (by decide)
