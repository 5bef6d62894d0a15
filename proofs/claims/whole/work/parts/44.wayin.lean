/-! THE REFERENCE: wayIn -/
def wG (p : Nat → Option Nat) (f w : Nat) : Nat → Prop := fun x => x < 24 ∧ p x = some f ∧ x ≠ w
def mP (σ : gm_S) (p : Nat → Option Nat) : Prop := ∀ e, e < 24 → σ.2 8 e = oI (p e) ∧ ∀ i, p e = some i → i < 100
def wy_inv (U V : Nat → Nat) (G : Nat → Prop) (s : Nat) (T : Nat → Bool) (lf : Nat → Option Nat) (rk : Nat → Nat) : Prop :=
  T s = true ∧ (∀ v, T v = true → v < 10) ∧ (∀ v, T v = false → lf v = none) ∧ lf s = none ∧ (∀ v, T v = true → v ≠ s → ∃ e u, lf v = some e ∧ e < 24 ∧ G e ∧ ((U e = u ∧ V e = v) ∨ (U e = v ∧ V e = u)) ∧ T u = true ∧ rk u < rk v) ∧ ∀ v, T v = true → gq_con U V G s v
theorem cnt_mono {P Q : Nat → Bool} : ∀ n e c c2, c ≤ c2 → (∀ i, e ≤ i → i < e + n → P i = true → Q i = true) → cnt_lp P n e c ≤ cnt_lp Q n e c2
  | 0, _, _, _, h, _ => h
  | n + 1, e, c, c2, h, hs => by
    rw [cnt_lp, cnt_lp]
    by_cases hP : P e = true
    · rw [if_pos hP, if_pos (hs e (Nat.le_refl e) (by omega) hP)]
      exact cnt_mono n (e + 1) (c + 1) (c2 + 1) (by omega) (fun i h1 h2 => hs i (by omega) (by omega))
    · rw [if_neg hP]
      split
      · exact cnt_mono n (e + 1) c (c2 + 1) (by omega) (fun i h1 h2 => hs i (by omega) (by omega))
      · exact cnt_mono n (e + 1) c c2 h (fun i h1 h2 => hs i (by omega) (by omega))
theorem cnt_more {P Q : Nat → Bool} {v : Nat} (hv : Q v = true) (hv2 : P v = false) : ∀ n e c, e ≤ v → v < e + n → (∀ i, e ≤ i → i < e + n → P i = true → Q i = true) → cnt_lp P n e c + 1 ≤ cnt_lp Q n e c
  | 0, e, c, h1, h2, _ => by omega
  | n + 1, e, c, h1, h2, hs => by
    rw [cnt_lp, cnt_lp]
    by_cases hev : e = v
    · subst hev
      rw [if_neg (by rw [hv2]; exact Bool.false_ne_true), if_pos hv]
      have h3 : cnt_lp P n (e + 1) (c + 1) ≤ cnt_lp Q n (e + 1) (c + 1) := cnt_mono n (e + 1) _ _ (Nat.le_refl _) (fun i h1 h2 => hs i (by omega) (by omega))
      have h4 : ∀ n e c, cnt_lp P n e (c + 1) = cnt_lp P n e c + 1 := by
        intro n
        induction n with
        | zero => intro e c; rfl
        | succ n ih => intro e c; rw [cnt_lp, cnt_lp]; split <;> rw [ih]
      rw [h4] at h3
      exact h3
    · by_cases hP : P e = true
      · rw [if_pos hP, if_pos (hs e (Nat.le_refl e) (by omega) hP)]
        exact cnt_more hv hv2 n (e + 1) (c + 1) (by omega) (by omega) (fun i h1 h2 => hs i (by omega) (by omega))
      · rw [if_neg hP]
        split
        · have h5 := cnt_more hv hv2 n (e + 1) c (by omega) (by omega) (fun i h1 h2 => hs i (by omega) (by omega))
          have h6 : cnt_lp Q n (e + 1) c ≤ cnt_lp Q n (e + 1) (c + 1) := cnt_mono n (e + 1) _ _ (by omega) (fun i _ _ z => z)
          omega
        · exact cnt_more hv hv2 n (e + 1) c (by omega) (by omega) (fun i h1 h2 => hs i (by omega) (by omega))
theorem gq_ne {U V : Nat → Nat} {X : Nat → Prop} {a b : Nat} (h : gq_con U V X a b) (hab : a ≠ b) : ∃ x, X x := by
  refine Classical.byContradiction fun hn => hab ?_
  exact h (fun x y => x = y) ⟨fun _ => rfl, fun _ _ q => q.symm, fun _ _ _ q r => q.trans r⟩ (fun e he => absurd ⟨e, he⟩ hn)
theorem wy_step {U V : Nat → Nat} {G : Nat → Prop} {s e u v : Nat} {T : Nat → Bool} {lf : Nat → Option Nat} {rk : Nat → Nat} (h : wy_inv U V G s T lf rk) (he : e < 24) (hG : G e) (hends : (U e = u ∧ V e = v) ∨ (U e = v ∧ V e = u)) (hu : T u = true) (hv : T v = false) (hv10 : v < 10) : wy_inv U V G s (fun i => T i || (decide (i = U e) || decide (i = V e))) (va_up lf v (some e)) (va_up rk v (rk u + 1)) := by
  obtain ⟨h1, h2, h3, h4, h5, h6⟩ := h
  have hT : ∀ i, (T i || (decide (i = U e) || decide (i = V e))) = true ↔ T i = true ∨ i = v := by
    intro i
    simp only [Bool.or_eq_true, decide_eq_true_eq]
    rcases hends with ⟨a, b⟩ | ⟨a, b⟩
    · rw [a, b]
      exact ⟨fun z => by rcases z with z | z | z; exact Or.inl z; exact Or.inl (z ▸ hu); exact Or.inr z, fun z => by rcases z with z | z; exact Or.inl z; exact Or.inr (Or.inr z)⟩
    · rw [a, b]
      exact ⟨fun z => by rcases z with z | z | z; exact Or.inl z; exact Or.inr z; exact Or.inl (z ▸ hu), fun z => by rcases z with z | z; exact Or.inl z; exact Or.inr (Or.inl z)⟩
  have hvs : v ≠ s := fun z => by rw [z, h1] at hv; cases hv
  have hne : ∀ i, T i = true → i ≠ v := fun i hi z => by rw [z, hv] at hi; cases hi
  refine ⟨(hT s).mpr (Or.inl h1), fun i hi => ?_, fun i hi => ?_, ?_, fun i hi his => ?_, fun i hi => ?_⟩
  · rcases (hT i).mp hi with z | z
    · exact h2 i z
    · rw [z]; exact hv10
  · have hi : (T i || (decide (i = U e) || decide (i = V e))) = false := hi
    have hnv : i ≠ v := fun z => by
      have := (hT i).mpr (Or.inr z)
      rw [hi] at this
      cases this
    rw [va_up_ne _ _ hnv]
    refine h3 i ?_
    cases hb : T i
    · rfl
    · have := (hT i).mpr (Or.inl hb)
      rw [hi] at this
      cases this
  · rw [va_up_ne _ _ (Ne.symm hvs)]; exact h4
  · rcases (hT i).mp hi with z | z
    · obtain ⟨e2, u2, a1, a2, a3, a4, a5, a6⟩ := h5 i z his
      refine ⟨e2, u2, by rw [va_up_ne _ _ (hne i z)]; exact a1, a2, a3, a4, (hT u2).mpr (Or.inl a5), ?_⟩
      rw [va_up_ne _ _ (hne i z), va_up_ne _ _ (hne u2 a5)]
      exact a6
    · subst z
      refine ⟨e, u, va_up_self _ _ _, he, hG, hends, (hT u).mpr (Or.inl hu), ?_⟩
      rw [va_up_self, va_up_ne _ _ (hne u hu)]
      omega
  · rcases (hT i).mp hi with z | z
    · exact h6 i z
    · subst z
      refine gq_tr (h6 u hu) ?_
      rcases hends with ⟨a, b⟩ | ⟨a, b⟩
      · rw [← a, ← b]; exact gq_ed hG
      · rw [← a, ← b]; exact gq_sy (gq_ed hG)
/-- the way back: what is gathered so far, from t to v -/
def wb_inv (U V : Nat → Nat) (G : Nat → Prop) (lf : Nat → Option Nat) (rk : Nat → Nat) (t v : Nat) (S : Nat → Bool) : Prop := (∀ x, S x = true → G x) ∧ gq_con U V (fun x => S x = true) t v ∧ ∀ x, S x = true → ∃ a b, lf a = some x ∧ ((U x = b ∧ V x = a) ∨ (U x = a ∧ V x = b)) ∧ rk v ≤ rk b ∧ rk b < rk a ∧ gq_con U V (fun y => S y = true ∧ y ≠ x) t a ∧ gq_con U V (fun y => S y = true ∧ y ≠ x) b v
theorem wb_step {U V : Nat → Nat} {G : Nat → Prop} {lf : Nat → Option Nat} {rk : Nat → Nat} {t v u e : Nat} {S : Nat → Bool} (h : wb_inv U V G lf rk t v S) (hG : G e) (hl : lf v = some e) (hends : (U e = u ∧ V e = v) ∨ (U e = v ∧ V e = u)) (hr : rk u < rk v) : wb_inv U V G lf rk t u (fun i => S i || decide (i = e)) := by
  obtain ⟨h1, h2, h3⟩ := h
  have hS : ∀ i, (S i || decide (i = e)) = true ↔ S i = true ∨ i = e := fun i => by simp
  have heS : ¬ S e = true := by
    intro z
    obtain ⟨a, b, c1, c2, c3, c4, -⟩ := h3 e z
    have hav : a ≠ v := fun q => by rw [q] at c4; omega
    have : (a = u ∧ b = v) := by
      rcases c2 with ⟨d1, d2⟩ | ⟨d1, d2⟩ <;> rcases hends with ⟨f1, f2⟩ | ⟨f1, f2⟩ <;> omega
    rw [this.1, this.2] at c4
    omega
  have hed : gq_con U V (fun x => (S x || decide (x = e)) = true) v u := by
    have := gq_ed (U := U) (V := V) (X := fun x => (S x || decide (x = e)) = true) (e := e) ((hS e).mpr (Or.inr rfl))
    rcases hends with ⟨a, b⟩ | ⟨a, b⟩
    · rw [a, b] at this; exact gq_sy this
    · rw [a, b] at this; exact this
  refine ⟨fun x hx => ?_, gq_tr (gq_mono (fun x hx => (hS x).mpr (Or.inl hx)) h2) hed, fun x hx => ?_⟩
  · rcases (hS x).mp hx with z | z
    · exact h1 x z
    · rw [z]; exact hG
  · rcases (hS x).mp hx with z | z
    · obtain ⟨a, b, c1, c2, c3, c4, c5, c6⟩ := h3 x z
      have hxe : e ≠ x := fun q => heS (q ▸ z)
      refine ⟨a, b, c1, c2, by omega, c4, gq_mono (fun y hy => ⟨(hS y).mpr (Or.inl hy.1), hy.2⟩) c5, gq_tr (gq_mono (fun y hy => ⟨(hS y).mpr (Or.inl hy.1), hy.2⟩) c6) ?_⟩
      have := gq_ed (U := U) (V := V) (X := fun y => (S y || decide (y = e)) = true ∧ y ≠ x) (e := e) ⟨(hS e).mpr (Or.inr rfl), hxe⟩
      rcases hends with ⟨a, b⟩ | ⟨a, b⟩
      · rw [a, b] at this; exact gq_sy this
      · rw [a, b] at this; exact this
    · subst z
      refine ⟨v, u, hl, hends, Nat.le_refl _, hr, gq_mono (fun y hy => ⟨(hS y).mpr (Or.inl hy), fun q => heS (q ▸ hy)⟩) h2, gq_rf⟩
theorem wb_end {U V : Nat → Nat} {G : Nat → Prop} {lf : Nat → Option Nat} {rk : Nat → Nat} {t s : Nat} {S : Nat → Bool} (hf : gf_for U V G) (h : wb_inv U V G lf rk t s S) : ∀ x, S x = true → ¬ gq_con U V (fun y => G y ∧ y ≠ x) s t := by
  intro x hx hc
  obtain ⟨h1, h2, h3⟩ := h
  obtain ⟨a, b, c1, c2, c3, c4, c5, c6⟩ := h3 x hx
  have up : ∀ {p q}, gq_con U V (fun y => S y = true ∧ y ≠ x) p q → gq_con U V (fun y => G y ∧ y ≠ x) p q := fun z => gq_mono (fun y hy => ⟨h1 y hy.1, hy.2⟩) z
  have hab : gq_con U V (fun y => G y ∧ y ≠ x) b a := gq_tr (up c6) (gq_tr hc (up c5))
  rcases c2 with ⟨d1, d2⟩ | ⟨d1, d2⟩
  · exact hf x (h1 x hx) (by rw [d1, d2]; exact hab)
  · exact hf x (h1 x hx) (by rw [d1, d2]; exact gq_sy hab)
/-- nothing more can be reached: the two ends lie apart -/
theorem wy_no {U V : Nat → Nat} {G : Nat → Prop} {s t : Nat} {T : Nat → Bool} (hs : T s = true) (ht : T t = false) (hc : ∀ e, G e → T (U e) = T (V e)) : ¬ gq_con U V G s t := by
  intro h
  have := h (fun a b => T a = T b) ⟨fun _ => rfl, fun _ _ q => q.symm, fun _ _ _ q r => q.trans r⟩ hc
  have this : T s = T t := this
  rw [hs, ht] at this
  cases this
set_option maxHeartbeats 4000000 in
set_option maxRecDepth 100000 in
theorem c_X4_wayIn (l : Launch) (E : gm_E) (σ : gm_S) (U V : Nat → Nat) (hE : mE σ U V) (p : Nat → Option Nat) (hp : mP σ p) (f w : Nat) (hf100 : f < 100) (hw : w < 24) (hUV : U w ≠ V w) (hG : gf_for U V (wG p f w)) : gm_MI l E yX4_wayIn (.code yX4_wayIn cX4_wayIn 11 (some .int) :: gw_T) { frames := 0, cells := 0, slots := 0, locals := 0 } [.ref (E.2.2 5), .int (nI f), .int (nI w)] σ (fun r σ2 => gm_fr σ σ2 (fun _ _ => False) (fun y => y = 13) ∧ ((r = 0 ∧ ¬ gq_con U V (wG p f w) (U w) (V w)) ∨ ∃ S, bm r S ∧ r ≠ 0 ∧ (∀ x, S x = true → wG p f w x) ∧ gq_con U V (fun x => S x = true) (U w) (V w) ∧ ∀ x, S x = true → ¬ gq_con U V (fun y => wG p f w y ∧ y ≠ x) (U w) (V w))) := by
  refine gm_enterI RX4 (by decide +kernel) rfl rfl (Nat.le_of_ble_eq_true rfl) (gm_c1_ok rfl) ?_
  intro X hC hR
  show gm_G X E 11 0 [some (.ref (E.2.2 5)), some (.int (nI f)), some (.int (nI w)), none, none, none, none, none, none, none, none] [] σ
  obtain ⟨w1, w2, w3, w4⟩ := hE w hw
  have hEr : ∀ σ2 : gm_S, gm_fr σ σ2 (fun _ _ => False) (fun y => y = 13) → mE σ2 U V ∧ mP σ2 p := fun σ2 h => ⟨fun e he => by rw [h.2 6 (by decide)]; exact hE e he, fun e he => by rw [h.2 8 (by decide)]; exact hp e he⟩
  have LB : ∀ m v (S : Nat → Bool) (y : Int32) (T : Nat → Bool) (lf : Nat → Option Nat) (rk : Nat → Nat) (σ2 : gm_S) (w4 w5 w8 w9 w10 : Option Value), rk v < m → v < 10 → gm_fr σ σ2 (fun _ _ => False) (fun y => y = 13) → (∀ j, j < 10 → σ2.2 13 j = oI (lf j)) → wy_inv U V (wG p f w) (U w) T lf rk → (∀ e, wG p f w e → T (U e) = T (V e)) → bm y S → wb_inv U V (wG p f w) lf rk (V w) v S → (T v = true ∨ (v = V w ∧ y = 0)) → gm_G X E 11 203 [some (.ref (E.2.2 5)), some (.int (nI f)), some (.int (nI w)), some (.int (nI (U w))), w4, w5, some (.int (nI v)), some (.int y), w8, w9, w10] [] σ2 := by
    intro m
    induction m with
    | zero =>
      intro v S y T lf rk σ2 w4 w5 w8 w9 w10 hm
      omega
    | succ m ih =>
      intro v S y T lf rk σ2 w4 w5 w8 w9 w10 hm hv10 hfr hlf hinv hcl hy hwb hT
      obtain ⟨hE2, hp2⟩ := hEr σ2 hfr
      refine gi_ild hC dX4_wayIn_203 rfl ?_
      refine gi_ildn hC dX4_wayIn_205 rfl ?_
      refine gi_icmp_eq hC 279 dX4_wayIn_206 (by decide) (fun h1 => ?_) (fun h1 => ?_)
      ·
        have hvs : v = U w := (nI_eq (by omega) (by omega)).mp h1
        subst hvs
        refine gi_ild hC dX4_wayIn_279 rfl ?_
        have hend := wb_end hG hwb
        obtain ⟨x, hx⟩ := gq_ne hwb.2.1 (Ne.symm hUV)
        refine hR _ _ _ _ rfl ⟨hfr, Or.inr ⟨S, hy, ?_, hwb.1, gq_sy hwb.2.1, hend⟩⟩ dX4_wayIn_281
        intro h0
        have h24 := (hwb.1 x hx).1
        have := hy x (by omega)
        rw [h0, b_0, hx] at this
        cases this
      ·
        have hvs : v ≠ U w := fun z => h1 (by rw [z])
        have hlv := hlf v hv10
        refine gi_aldn hC dX4_wayIn_209 rfl ?_
        refine gf_M_lifted hC gw_325 dX4_wayIn_210 ?_
        refine gi_ild hC dX4_wayIn_213 rfl ?_
        refine gi_iald hC (gm_i13 E) (j := v) hv10 rfl (by first | decide | omega) dX4_wayIn_215 ?_
        rw [hlv]
        refine gi_if_lt hC 279 dX4_wayIn_216 (by decide) (fun h2 => ?_) (fun h2 => ?_)
        ·
          have hTv : ¬ T v = true := by
            intro z
            obtain ⟨e, u, a1, a2, -⟩ := hinv.2.2.2.2.1 v z hvs
            rw [a1] at h2
            exact nI_pos (n := e) (by omega) h2
          obtain ⟨hv, hy0⟩ := hT.elim (fun z => absurd z hTv) id
          subst hv
          have hTf : T (V w) = false := by
            cases hb : T (V w)
            · rfl
            · exact absurd hb hTv
          refine gi_ild hC dX4_wayIn_279 rfl ?_
          rw [hy0]
          exact hR _ _ _ _ rfl ⟨hfr, Or.inl ⟨rfl, wy_no hinv.1 hTf hcl⟩⟩ dX4_wayIn_281
        ·
          have hTv : T v = true := by
            cases hb : T v
            · rw [hinv.2.2.1 v hb] at h2; exact absurd (by show (-1 : Int32) < 0; decide) h2
            · rfl
          obtain ⟨e, u, a1, a2, a3, a4, a5, a6⟩ := hinv.2.2.2.2.1 v hTv hvs
          have hu10 := hinv.2.1 u a5
          obtain ⟨e1, e2, e3, e4⟩ := hE2 e a2
          rw [a1] at hlv
          refine gi_aldn hC dX4_wayIn_219 rfl ?_
          refine gf_M_lifted hC gw_325 dX4_wayIn_220 ?_
          refine gi_ild hC dX4_wayIn_223 rfl ?_
          refine gi_iald hC (gm_i13 E) (j := v) hv10 rfl (by first | decide | omega) dX4_wayIn_225 ?_
          rw [hlv]
          refine gi_ist_8 hC dX4_wayIn_226 (by decide) ?_
          refine gi_ild hC dX4_wayIn_228 rfl ?_
          refine gi_const hC (v := 1) dX4_wayIn_230 (by decide) ?_
          refine gi_ild hC dX4_wayIn_231 rfl ?_
          refine gi_ishl hC dX4_wayIn_233 ?_
          refine gi_ior hC dX4_wayIn_234 ?_
          refine gi_ist_7 hC dX4_wayIn_235 (by decide) ?_
          refine gi_aldn hC dX4_wayIn_237 rfl ?_
          refine gf_M_ends hC gw_317 dX4_wayIn_238 ?_
          refine gi_const hC (v := 2) dX4_wayIn_241 (by decide) ?_
          refine gi_ild hC dX4_wayIn_242 rfl ?_
          refine gi_imul hC dX4_wayIn_244 ?_
          refine gi_iald hC (gm_i6 E) (j := 2 * e) (by omega) (by show 2 * nI e = nI (2 * e); rw [show (2 : Int32) = nI 2 from rfl, pk_mul]) (by first | decide | omega) dX4_wayIn_245 ?_
          rw [e1]
          refine gi_ild hC dX4_wayIn_246 rfl ?_
          refine gi_icmp_ne hC 265 dX4_wayIn_248 (by decide) (fun h3 => ?_) (fun h3 => ?_)
          ·
            have hU : U e = u := by
              rcases a4 with ⟨b1, b2⟩ | ⟨b1, b2⟩
              · exact b1
              · exact absurd (by rw [b1]) h3
            refine gi_aldn hC dX4_wayIn_265 rfl ?_
            refine gf_M_ends hC gw_317 dX4_wayIn_266 ?_
            refine gi_const hC (v := 2) dX4_wayIn_269 (by decide) ?_
            refine gi_ild hC dX4_wayIn_270 rfl ?_
            refine gi_imul hC dX4_wayIn_272 ?_
            refine gi_iald hC (gm_i6 E) (j := 2 * e) (by omega) (by show 2 * nI e = nI (2 * e); rw [show (2 : Int32) = nI 2 from rfl, pk_mul]) (by first | decide | omega) dX4_wayIn_273 ?_
            rw [e1, hU]
            refine gi_ist_6 hC dX4_wayIn_274 (by decide) ?_
            refine gi_goto hC 203 dX4_wayIn_276 (by decide) ?_
            exact ih u _ _ T lf rk σ2 _ _ _ _ _ (by omega) hu10 hfr hlf hinv hcl (bm_or hy (bm_pow (n := e) (by omega))) (wb_step hwb a3 a1 a4 a6) (Or.inl a5)
          ·
            have hV : V e = u := by
              have h3 : U e = v := (nI_eq (by omega) (by omega)).mp h3
              rcases a4 with ⟨b1, b2⟩ | ⟨b1, b2⟩
              · have : u = v := b1.symm.trans h3
                rw [this] at a6
                omega
              · exact b2
            refine gi_aldn hC dX4_wayIn_251 rfl ?_
            refine gf_M_ends hC gw_317 dX4_wayIn_252 ?_
            refine gi_const hC (v := 2) dX4_wayIn_255 (by decide) ?_
            refine gi_ild hC dX4_wayIn_256 rfl ?_
            refine gi_imul hC dX4_wayIn_258 ?_
            refine gi_const hC (v := 1) dX4_wayIn_259 (by decide) ?_
            refine gi_iadd hC dX4_wayIn_260 ?_
            refine gi_iald hC (gm_i6 E) (j := 2 * e + 1) (by omega) (by show 2 * nI e + 1 = nI (2 * e + 1); rw [show (2 : Int32) = nI 2 from rfl, pk_mul, nI_1]) (by first | decide | omega) dX4_wayIn_261 ?_
            refine gi_goto hC 274 dX4_wayIn_262 (by decide) ?_
            rw [e2, hV]
            refine gi_ist_6 hC dX4_wayIn_274 (by decide) ?_
            refine gi_goto hC 203 dX4_wayIn_276 (by decide) ?_
            exact ih u _ _ T lf rk σ2 _ _ _ _ _ (by omega) hu10 hfr hlf hinv hcl (bm_or hy (bm_pow (n := e) (by omega))) (wb_step hwb a3 a1 a4 a6) (Or.inl a5)
  have LI : ∀ m i (T0 T : Nat → Bool) (lf : Nat → Option Nat) (rk : Nat → Nat) (y : Int32) (mo : Bool) (σ2 : gm_S) (w7 w8 w9 w10 : Option Value), i + m = 24 → gm_fr σ σ2 (fun _ _ => False) (fun y => y = 13) → (∀ j, j < 10 → σ2.2 13 j = oI (lf j)) → wy_inv U V (wG p f w) (U w) T lf rk → bm y T → (mo = false → T = T0 ∧ ∀ e, e < i → wG p f w e → T (U e) = T (V e)) → (mo = true → cnt_lp T0 10 0 0 + 1 ≤ cnt_lp T 10 0 0) → (∀ j, T0 j = true → T j = true) → (∀ (σ3 : gm_S) (T3 : Nat → Bool) (lf3 : Nat → Option Nat) (rk3 : Nat → Nat) (y3 : Int32) (mo3 : Bool) (w6 w7 w8 w9 w10 : Option Value), gm_fr σ σ3 (fun _ _ => False) (fun y => y = 13) → (∀ j, j < 10 → σ3.2 13 j = oI (lf3 j)) → wy_inv U V (wG p f w) (U w) T3 lf3 rk3 → bm y3 T3 → (mo3 = false → T3 = T0 ∧ ∀ e, wG p f w e → T3 (U e) = T3 (V e)) → (mo3 = true → cnt_lp T0 10 0 0 + 1 ≤ cnt_lp T3 10 0 0) → gm_G X E 11 41 [some (.ref (E.2.2 5)), some (.int (nI f)), some (.int (nI w)), some (.int (nI (U w))), some (.int y3), some (.int (if mo3 = true then 1 else 0)), w6, w7, w8, w9, w10] [] σ3) → gm_G X E 11 52 [some (.ref (E.2.2 5)), some (.int (nI f)), some (.int (nI w)), some (.int (nI (U w))), some (.int y), some (.int (if mo = true then 1 else 0)), some (.int (nI i)), w7, w8, w9, w10] [] σ2 := by
    intro m
    induction m with
    | zero =>
      intro i T0 T lf rk y mo σ2 w7 w8 w9 w10 hi0 hfr hlf hinv hy hmo hmo1 hsub KK
      have hi0 : i = 24 := by omega
      subst hi0
      refine gi_ild hC dX4_wayIn_52 rfl ?_
      refine gi_bipush hC (v := 24) dX4_wayIn_54 (by decide) ?_
      refine gi_icmp_ge hC 185 dX4_wayIn_56 (by decide) (fun h1 => ?_) (fun h1 => ?_)
      ·
        refine gi_goto hC 41 dX4_wayIn_185 (by decide) ?_
        exact KK σ2 T lf rk y mo _ _ _ _ _ hfr hlf hinv hy (fun z => ⟨(hmo z).1, fun e he => (hmo z).2 e he.1 he⟩) hmo1
      · exact absurd (Int32.le_refl _) h1
    | succ m ih =>
      intro i T0 T lf rk y mo σ2 w7 w8 w9 w10 hi0 hfr hlf hinv hy hmo hmo1 hsub KK
      obtain ⟨hE2, hp2⟩ := hEr σ2 hfr
      obtain ⟨p1, p2⟩ := hp2 i (by omega)
      obtain ⟨e1, e2, e3, e4⟩ := hE2 i (by omega)
      have N : ∀ w7 w8 w9 w10 : Option Value, (wG p f w i → T (U i) = T (V i)) → gm_G X E 11 179 [some (.ref (E.2.2 5)), some (.int (nI f)), some (.int (nI w)), some (.int (nI (U w))), some (.int y), some (.int (if mo = true then 1 else 0)), some (.int (nI i)), w7, w8, w9, w10] [] σ2 := by
        intro w7 w8 w9 w10 hx
        refine gi_iinc_6 hC dX4_wayIn_179 (nI_1 i) (by decide) ?_
        refine gi_goto hC 52 dX4_wayIn_182 (by decide) ?_
        exact ih (i + 1) T0 T lf rk y mo σ2 _ _ _ _ (by omega) hfr hlf hinv hy (fun z => ⟨(hmo z).1, fun e he hg => by
          by_cases q : e = i
          · subst q; exact hx hg
          · exact (hmo z).2 e (by omega) hg⟩) hmo1 hsub KK
      refine gi_ild hC dX4_wayIn_52 rfl ?_
      refine gi_bipush hC (v := 24) dX4_wayIn_54 (by decide) ?_
      refine gi_icmp_ge hC 185 dX4_wayIn_56 (by decide) (fun h1 => ?_) (fun h1 => ?_)
      · exact absurd h1 (nI_ge (a := i) (b := 24) (by omega) (by omega))
      ·
        refine gi_aldn hC dX4_wayIn_59 rfl ?_
        refine gf_M_forestOf hC gw_320 dX4_wayIn_60 ?_
        refine gi_ild hC dX4_wayIn_63 rfl ?_
        refine gi_iald hC (gm_i8 E) (j := i) (by omega) rfl (by first | decide | omega) dX4_wayIn_65 ?_
        rw [p1]
        refine gi_ildn hC dX4_wayIn_66 rfl ?_
        refine gi_icmp_ne hC 179 dX4_wayIn_67 (by decide) (fun h2 => ?_) (fun h2 => ?_)
        · exact N _ _ _ _ (fun z => absurd (by rw [z.2.1]; rfl) h2)
        ·
          have hpf : p i = some f := oI_inj (t := some f) (fun n hn => Nat.lt_of_lt_of_le (p2 n hn) (by decide)) (fun n hn => by cases hn; omega) h2
          refine gi_ild hC dX4_wayIn_70 rfl ?_
          refine gi_ildn hC dX4_wayIn_72 rfl ?_
          refine gi_icmp_eq hC 179 dX4_wayIn_73 (by decide) (fun h3 => ?_) (fun h3 => ?_)
          · exact N _ _ _ _ (fun z => absurd ((nI_eq (by omega) (by omega)).mp h3) z.2.2)
          ·
            have hiw : i ≠ w := fun z => h3 (by rw [z])
            have hg : wG p f w i := ⟨by omega, hpf, hiw⟩
            refine gi_aldn hC dX4_wayIn_76 rfl ?_
            refine gf_M_ends hC gw_317 dX4_wayIn_77 ?_
            refine gi_const hC (v := 2) dX4_wayIn_80 (by decide) ?_
            refine gi_ild hC dX4_wayIn_81 rfl ?_
            refine gi_imul hC dX4_wayIn_83 ?_
            refine gi_iald hC (gm_i6 E) (j := 2 * i) (by omega) (by rw [show (2 : Int32) = nI 2 from rfl, pk_mul]) (by first | decide | omega) dX4_wayIn_84 ?_
            rw [e1]
            refine gi_ist_7 hC dX4_wayIn_85 (by decide) ?_
            refine gi_aldn hC dX4_wayIn_87 rfl ?_
            refine gf_M_ends hC gw_317 dX4_wayIn_88 ?_
            refine gi_const hC (v := 2) dX4_wayIn_91 (by decide) ?_
            refine gi_ild hC dX4_wayIn_92 rfl ?_
            refine gi_imul hC dX4_wayIn_94 ?_
            refine gi_const hC (v := 1) dX4_wayIn_95 (by decide) ?_
            refine gi_iadd hC dX4_wayIn_96 ?_
            refine gi_iald hC (gm_i6 E) (j := 2 * i + 1) (by omega) (by rw [show (2 : Int32) = nI 2 from rfl, pk_mul, nI_1]) (by first | decide | omega) dX4_wayIn_97 ?_
            rw [e2]
            refine gi_ist_8 hC dX4_wayIn_98 (by decide) ?_
            cases hA : T (U i) with
            | true =>
              refine gi_ild hC dX4_wayIn_100 rfl ?_
              refine gi_ild hC dX4_wayIn_102 rfl ?_
              refine gi_ishr hC dX4_wayIn_104 ?_
              refine gi_const hC (v := 1) dX4_wayIn_105 (by decide) ?_
              refine gi_iand hC dX4_wayIn_106 ?_
              refine gi_const hC (v := 1) dX4_wayIn_107 (by decide) ?_
              rw [bm_tst hy (by omega), hA]
              refine gi_icmp_ne hC 115 dX4_wayIn_108 (by decide) (fun h4 => ?_) (fun h4 => ?_)
              · exact absurd rfl h4
              ·
                refine gi_const hC (v := 1) dX4_wayIn_111 (by decide) ?_
                refine gi_goto hC 116 dX4_wayIn_112 (by decide) ?_
                refine gi_ist_9 hC dX4_wayIn_116 (by decide) ?_
                cases hB : T (V i) with
                | true =>
                  refine gi_ild hC dX4_wayIn_118 rfl ?_
                  refine gi_ild hC dX4_wayIn_120 rfl ?_
                  refine gi_ishr hC dX4_wayIn_122 ?_
                  refine gi_const hC (v := 1) dX4_wayIn_123 (by decide) ?_
                  refine gi_iand hC dX4_wayIn_124 ?_
                  refine gi_const hC (v := 1) dX4_wayIn_125 (by decide) ?_
                  rw [bm_tst hy (by omega), hB]
                  refine gi_icmp_ne hC 133 dX4_wayIn_126 (by decide) (fun h5 => ?_) (fun h5 => ?_)
                  · exact absurd rfl h5
                  ·
                    refine gi_const hC (v := 1) dX4_wayIn_129 (by decide) ?_
                    refine gi_goto hC 134 dX4_wayIn_130 (by decide) ?_
                    refine gi_ist_10 hC dX4_wayIn_134 (by decide) ?_
                    refine gi_ild hC dX4_wayIn_136 rfl ?_
                    refine gi_ild hC dX4_wayIn_138 rfl ?_
                    refine gi_icmp_eq hC 179 dX4_wayIn_140 (by decide) (fun h6 => ?_) (fun h6 => ?_)
                    · exact N _ _ _ _ (fun _ => by rw [hA, hB])
                    · exact absurd rfl h6
                | false =>
                  refine gi_ild hC dX4_wayIn_118 rfl ?_
                  refine gi_ild hC dX4_wayIn_120 rfl ?_
                  refine gi_ishr hC dX4_wayIn_122 ?_
                  refine gi_const hC (v := 1) dX4_wayIn_123 (by decide) ?_
                  refine gi_iand hC dX4_wayIn_124 ?_
                  refine gi_const hC (v := 1) dX4_wayIn_125 (by decide) ?_
                  rw [bm_tst hy (by omega), hB]
                  refine gi_icmp_ne hC 133 dX4_wayIn_126 (by decide) (fun h5 => ?_) (fun h5 => ?_)
                  ·
                    refine gi_const hC (v := 0) dX4_wayIn_133 (by decide) ?_
                    refine gi_ist_10 hC dX4_wayIn_134 (by decide) ?_
                    refine gi_ild hC dX4_wayIn_136 rfl ?_
                    refine gi_ild hC dX4_wayIn_138 rfl ?_
                    refine gi_icmp_eq hC 179 dX4_wayIn_140 (by decide) (fun h6 => ?_) (fun h6 => ?_)
                    · exact absurd h6 (by decide)
                    ·
                      refine gi_aldn hC dX4_wayIn_143 rfl ?_
                      refine gf_M_lifted hC gw_325 dX4_wayIn_144 ?_
                      refine gi_ild hC dX4_wayIn_147 rfl ?_
                      refine gi_if_eq hC 157 dX4_wayIn_149 (by decide) (fun h7 => ?_) (fun h7 => ?_)
                      · exact absurd h7 (by decide)
                      ·
                        refine gi_ild hC dX4_wayIn_152 rfl ?_
                        refine gi_goto hC 159 dX4_wayIn_154 (by decide) ?_
                        refine gi_ild hC dX4_wayIn_159 rfl ?_
                        refine gi_iast hC (gm_i13 E) (j := V i) (by omega) rfl (by first | decide | omega) dX4_wayIn_161 ?_
                        refine gi_ild hC dX4_wayIn_162 rfl ?_
                        refine gi_const hC (v := 1) dX4_wayIn_164 (by decide) ?_
                        refine gi_ild hC dX4_wayIn_165 rfl ?_
                        refine gi_ishl hC dX4_wayIn_167 ?_
                        refine gi_const hC (v := 1) dX4_wayIn_168 (by decide) ?_
                        refine gi_ild hC dX4_wayIn_169 rfl ?_
                        refine gi_ishl hC dX4_wayIn_171 ?_
                        refine gi_ior hC dX4_wayIn_172 ?_
                        refine gi_ior hC dX4_wayIn_173 ?_
                        refine gi_ist_4 hC dX4_wayIn_174 (by decide) ?_
                        refine gi_const hC (v := 1) dX4_wayIn_176 (by decide) ?_
                        refine gi_ist_5 hC dX4_wayIn_177 (by decide) ?_
                        refine gi_iinc_6 hC dX4_wayIn_179 (nI_1 i) (by decide) ?_
                        refine gi_goto hC 52 dX4_wayIn_182 (by decide) ?_
                        refine ih (i + 1) T0 _ _ _ _ true _ _ _ _ _ (by omega) (gm_fr_tr hfr (gm_fr_ar rfl)) (fun j hj => ?_) (wy_step hinv (by omega) hg (Or.inl ⟨rfl, rfl⟩) hA hB (by omega)) (bm_or hy (bm_or (bm_pow (n := U i) (by omega)) (bm_pow (n := V i) (by omega)))) (fun z => by cases z) (fun _ => ?_) (fun j hj => by simp [hsub j hj]) KK
                        · by_cases hjn : j = V i
                          · subst hjn
                            rw [gm_ar_2, va_up_self]
                            rfl
                          · rw [gm_ar_n _ _ (fun z => hjn z.2), va_up_ne _ _ hjn]
                            exact hlf j hj
                        · have q1 : cnt_lp T0 10 0 0 ≤ cnt_lp T 10 0 0 := cnt_mono 10 0 0 0 (Nat.le_refl 0) (fun j _ _ z => hsub j z)
                          have q2 := cnt_more (P := T) (Q := fun j => T j || (decide (j = U i) || decide (j = V i))) (v := V i) (by simp) hB 10 0 0 (Nat.zero_le _) (by omega) (fun j _ _ z => by simp [z])
                          omega
                  · exact absurd h5 (by decide)
            | false =>
              refine gi_ild hC dX4_wayIn_100 rfl ?_
              refine gi_ild hC dX4_wayIn_102 rfl ?_
              refine gi_ishr hC dX4_wayIn_104 ?_
              refine gi_const hC (v := 1) dX4_wayIn_105 (by decide) ?_
              refine gi_iand hC dX4_wayIn_106 ?_
              refine gi_const hC (v := 1) dX4_wayIn_107 (by decide) ?_
              rw [bm_tst hy (by omega), hA]
              refine gi_icmp_ne hC 115 dX4_wayIn_108 (by decide) (fun h4 => ?_) (fun h4 => ?_)
              ·
                refine gi_const hC (v := 0) dX4_wayIn_115 (by decide) ?_
                refine gi_ist_9 hC dX4_wayIn_116 (by decide) ?_
                cases hB : T (V i) with
                | true =>
                  refine gi_ild hC dX4_wayIn_118 rfl ?_
                  refine gi_ild hC dX4_wayIn_120 rfl ?_
                  refine gi_ishr hC dX4_wayIn_122 ?_
                  refine gi_const hC (v := 1) dX4_wayIn_123 (by decide) ?_
                  refine gi_iand hC dX4_wayIn_124 ?_
                  refine gi_const hC (v := 1) dX4_wayIn_125 (by decide) ?_
                  rw [bm_tst hy (by omega), hB]
                  refine gi_icmp_ne hC 133 dX4_wayIn_126 (by decide) (fun h5 => ?_) (fun h5 => ?_)
                  · exact absurd rfl h5
                  ·
                    refine gi_const hC (v := 1) dX4_wayIn_129 (by decide) ?_
                    refine gi_goto hC 134 dX4_wayIn_130 (by decide) ?_
                    refine gi_ist_10 hC dX4_wayIn_134 (by decide) ?_
                    refine gi_ild hC dX4_wayIn_136 rfl ?_
                    refine gi_ild hC dX4_wayIn_138 rfl ?_
                    refine gi_icmp_eq hC 179 dX4_wayIn_140 (by decide) (fun h6 => ?_) (fun h6 => ?_)
                    · exact absurd h6 (by decide)
                    ·
                      refine gi_aldn hC dX4_wayIn_143 rfl ?_
                      refine gf_M_lifted hC gw_325 dX4_wayIn_144 ?_
                      refine gi_ild hC dX4_wayIn_147 rfl ?_
                      refine gi_if_eq hC 157 dX4_wayIn_149 (by decide) (fun h7 => ?_) (fun h7 => ?_)
                      ·
                        refine gi_ild hC dX4_wayIn_157 rfl ?_
                        refine gi_ild hC dX4_wayIn_159 rfl ?_
                        refine gi_iast hC (gm_i13 E) (j := U i) (by omega) rfl (by first | decide | omega) dX4_wayIn_161 ?_
                        refine gi_ild hC dX4_wayIn_162 rfl ?_
                        refine gi_const hC (v := 1) dX4_wayIn_164 (by decide) ?_
                        refine gi_ild hC dX4_wayIn_165 rfl ?_
                        refine gi_ishl hC dX4_wayIn_167 ?_
                        refine gi_const hC (v := 1) dX4_wayIn_168 (by decide) ?_
                        refine gi_ild hC dX4_wayIn_169 rfl ?_
                        refine gi_ishl hC dX4_wayIn_171 ?_
                        refine gi_ior hC dX4_wayIn_172 ?_
                        refine gi_ior hC dX4_wayIn_173 ?_
                        refine gi_ist_4 hC dX4_wayIn_174 (by decide) ?_
                        refine gi_const hC (v := 1) dX4_wayIn_176 (by decide) ?_
                        refine gi_ist_5 hC dX4_wayIn_177 (by decide) ?_
                        refine gi_iinc_6 hC dX4_wayIn_179 (nI_1 i) (by decide) ?_
                        refine gi_goto hC 52 dX4_wayIn_182 (by decide) ?_
                        refine ih (i + 1) T0 _ _ _ _ true _ _ _ _ _ (by omega) (gm_fr_tr hfr (gm_fr_ar rfl)) (fun j hj => ?_) (wy_step hinv (by omega) hg (Or.inr ⟨rfl, rfl⟩) hB hA (by omega)) (bm_or hy (bm_or (bm_pow (n := U i) (by omega)) (bm_pow (n := V i) (by omega)))) (fun z => by cases z) (fun _ => ?_) (fun j hj => by simp [hsub j hj]) KK
                        · by_cases hjn : j = U i
                          · subst hjn
                            rw [gm_ar_2, va_up_self]
                            rfl
                          · rw [gm_ar_n _ _ (fun z => hjn z.2), va_up_ne _ _ hjn]
                            exact hlf j hj
                        · have q1 : cnt_lp T0 10 0 0 ≤ cnt_lp T 10 0 0 := cnt_mono 10 0 0 0 (Nat.le_refl 0) (fun j _ _ z => hsub j z)
                          have q2 := cnt_more (P := T) (Q := fun j => T j || (decide (j = U i) || decide (j = V i))) (v := U i) (by simp) hA 10 0 0 (Nat.zero_le _) (by omega) (fun j _ _ z => by simp [z])
                          omega
                      · exact absurd rfl h7
                | false =>
                  refine gi_ild hC dX4_wayIn_118 rfl ?_
                  refine gi_ild hC dX4_wayIn_120 rfl ?_
                  refine gi_ishr hC dX4_wayIn_122 ?_
                  refine gi_const hC (v := 1) dX4_wayIn_123 (by decide) ?_
                  refine gi_iand hC dX4_wayIn_124 ?_
                  refine gi_const hC (v := 1) dX4_wayIn_125 (by decide) ?_
                  rw [bm_tst hy (by omega), hB]
                  refine gi_icmp_ne hC 133 dX4_wayIn_126 (by decide) (fun h5 => ?_) (fun h5 => ?_)
                  ·
                    refine gi_const hC (v := 0) dX4_wayIn_133 (by decide) ?_
                    refine gi_ist_10 hC dX4_wayIn_134 (by decide) ?_
                    refine gi_ild hC dX4_wayIn_136 rfl ?_
                    refine gi_ild hC dX4_wayIn_138 rfl ?_
                    refine gi_icmp_eq hC 179 dX4_wayIn_140 (by decide) (fun h6 => ?_) (fun h6 => ?_)
                    · exact N _ _ _ _ (fun _ => by rw [hA, hB])
                    · exact absurd rfl h6
                  · exact absurd h5 (by decide)
              · exact absurd h4 (by decide)
  have LO : ∀ n (T : Nat → Bool) (lf : Nat → Option Nat) (rk : Nat → Nat) (y : Int32) (mo : Bool) (σ2 : gm_S) (w6 w7 w8 w9 w10 : Option Value), (mo = true → 10 < cnt_lp T 10 0 0 + n) → gm_fr σ σ2 (fun _ _ => False) (fun y => y = 13) → (∀ j, j < 10 → σ2.2 13 j = oI (lf j)) → wy_inv U V (wG p f w) (U w) T lf rk → bm y T → (mo = false → ∀ e, wG p f w e → T (U e) = T (V e)) → gm_G X E 11 41 [some (.ref (E.2.2 5)), some (.int (nI f)), some (.int (nI w)), some (.int (nI (U w))), some (.int y), some (.int (if mo = true then 1 else 0)), w6, w7, w8, w9, w10] [] σ2 := by
    have EX : ∀ (T : Nat → Bool) (lf : Nat → Option Nat) (rk : Nat → Nat) (y : Int32) (σ2 : gm_S) (w6 w7 w8 w9 w10 : Option Value), gm_fr σ σ2 (fun _ _ => False) (fun y => y = 13) → (∀ j, j < 10 → σ2.2 13 j = oI (lf j)) → wy_inv U V (wG p f w) (U w) T lf rk → (∀ e, wG p f w e → T (U e) = T (V e)) → gm_G X E 11 41 [some (.ref (E.2.2 5)), some (.int (nI f)), some (.int (nI w)), some (.int (nI (U w))), some (.int y), some (.int 0), w6, w7, w8, w9, w10] [] σ2 := by
      intro T lf rk y σ2 w6 w7 w8 w9 w10 hfr hlf hinv hcl
      obtain ⟨hE2, hp2⟩ := hEr σ2 hfr
      obtain ⟨w1, w2, w3, w4⟩ := hE2 w hw
      refine gi_ild hC dX4_wayIn_41 rfl ?_
      refine gi_if_eq hC 188 dX4_wayIn_43 (by decide) (fun h1 => ?_) (fun h1 => ?_)
      ·
        refine gi_aldn hC dX4_wayIn_188 rfl ?_
        refine gf_M_ends hC gw_317 dX4_wayIn_189 ?_
        refine gi_const hC (v := 2) dX4_wayIn_192 (by decide) ?_
        refine gi_ildn hC dX4_wayIn_193 rfl ?_
        refine gi_imul hC dX4_wayIn_194 ?_
        refine gi_const hC (v := 1) dX4_wayIn_195 (by decide) ?_
        refine gi_iadd hC dX4_wayIn_196 ?_
        refine gi_iald hC (gm_i6 E) (j := 2 * w + 1) (by omega) (by rw [show (2 : Int32) = nI 2 from rfl, pk_mul, nI_1]) (by first | decide | omega) dX4_wayIn_197 ?_
        rw [w2]
        refine gi_ist_6 hC dX4_wayIn_198 (by decide) ?_
        refine gi_const hC (v := 0) dX4_wayIn_200 (by decide) ?_
        refine gi_ist_7 hC dX4_wayIn_201 (by decide) ?_
        exact LB (rk (V w) + 1) (V w) (fun _ => false) 0 T lf rk σ2 _ _ _ _ _ (by omega) w4 hfr hlf hinv hcl bm_0 ⟨fun x hx => (by cases hx), gq_rf, fun x hx => (by cases hx)⟩ (Or.inr ⟨rfl, rfl⟩)
      · exact absurd rfl h1
    intro n
    induction n with
    | zero =>
      intro T lf rk y mo σ2 w6 w7 w8 w9 w10 hm hfr hlf hinv hy hcl
      cases mo with
      | true => have := hm rfl; have := cnt_lp_le T 10 0 0; omega
      | false => exact EX T lf rk y σ2 _ _ _ _ _ hfr hlf hinv (hcl rfl)
    | succ n ih =>
      intro T lf rk y mo σ2 w6 w7 w8 w9 w10 hm hfr hlf hinv hy hcl
      cases mo with
      | false => exact EX T lf rk y σ2 _ _ _ _ _ hfr hlf hinv (hcl rfl)
      | true =>
        refine gi_ild hC dX4_wayIn_41 rfl ?_
        refine gi_if_eq hC 188 dX4_wayIn_43 (by decide) (fun h1 => ?_) (fun h1 => ?_)
        · exact absurd h1 (by decide)
        ·
          refine gi_const hC (v := 0) dX4_wayIn_46 (by decide) ?_
          refine gi_ist_5 hC dX4_wayIn_47 (by decide) ?_
          refine gi_const hC (v := 0) dX4_wayIn_49 (by decide) ?_
          refine gi_ist_6 hC dX4_wayIn_50 (by decide) ?_
          refine LI 24 0 T T lf rk y false σ2 _ _ _ _ rfl hfr hlf hinv hy (fun _ => ⟨rfl, fun e he => absurd he (Nat.not_lt_zero e)⟩) (fun z => by cases z) (fun _ z => z) (fun σ3 T3 lf3 rk3 y3 mo3 w6 w7 w8 w9 w10 b1 b2 b3 b4 b5 b6 => ?_)
          exact ih T3 lf3 rk3 y3 mo3 σ3 _ _ _ _ _ (fun z => by have := b6 z; have := hm rfl; omega) b1 b2 b3 b4 (fun z => (b5 z).2)
  have L0 : ∀ m i (σ2 : gm_S) (w5 w6 w7 w8 w9 w10 : Option Value), i + m = 10 → gm_fr σ σ2 (fun _ _ => False) (fun y => y = 13) → (∀ j, j < i → σ2.2 13 j = -1) → gm_G X E 11 12 [some (.ref (E.2.2 5)), some (.int (nI f)), some (.int (nI w)), some (.int (nI (U w))), some (.int (nI i)), w5, w6, w7, w8, w9, w10] [] σ2 := by
    intro m
    induction m with
    | zero =>
      intro i σ2 w5 w6 w7 w8 w9 w10 hi0 hfr hz
      have hi0 : i = 10 := by omega
      subst hi0
      refine gi_ild hC dX4_wayIn_12 rfl ?_
      refine gi_bipush hC (v := 10) dX4_wayIn_14 (by decide) ?_
      refine gi_icmp_ge hC 33 dX4_wayIn_16 (by decide) (fun h1 => ?_) (fun h1 => ?_)
      ·
        refine gi_const hC (v := 1) dX4_wayIn_33 (by decide) ?_
        refine gi_ildn hC dX4_wayIn_34 rfl ?_
        refine gi_ishl hC dX4_wayIn_35 ?_
        refine gi_ist_4 hC dX4_wayIn_36 (by decide) ?_
        refine gi_const hC (v := 1) dX4_wayIn_38 (by decide) ?_
        refine gi_ist_5 hC dX4_wayIn_39 (by decide) ?_
        refine LO 11 (fun i => decide (i = U w)) (fun _ => none) (fun _ => 0) _ true σ2 _ _ _ _ _ (fun _ => by omega) hfr (fun j hj => by rw [hz j hj]; rfl) ⟨by simp, fun v hv => ?_, fun _ _ => rfl, rfl, fun v hv hne => ?_, fun v hv => ?_⟩ (bm_pow (by omega)) (fun z => by cases z)
        · simp at hv; omega
        · simp at hv; exact absurd hv hne
        · simp at hv; rw [hv]; exact gq_rf
      · exact absurd (Int32.le_refl _) h1
    | succ m ih =>
      intro i σ2 w5 w6 w7 w8 w9 w10 hi0 hfr hz
      refine gi_ild hC dX4_wayIn_12 rfl ?_
      refine gi_bipush hC (v := 10) dX4_wayIn_14 (by decide) ?_
      refine gi_icmp_ge hC 33 dX4_wayIn_16 (by decide) (fun h1 => ?_) (fun h1 => ?_)
      · exact absurd h1 (nI_ge (a := i) (b := 10) (by omega) (by omega))
      ·
        refine gi_aldn hC dX4_wayIn_19 rfl ?_
        refine gf_M_lifted hC gw_325 dX4_wayIn_20 ?_
        refine gi_ild hC dX4_wayIn_23 rfl ?_
        refine gi_const hC (v := -1) dX4_wayIn_25 (by decide) ?_
        refine gi_iast hC (gm_i13 E) (j := i) (by omega) rfl (by first | decide | omega) dX4_wayIn_26 ?_
        refine gi_iinc_4 hC dX4_wayIn_27 (nI_1 i) (by decide) ?_
        refine gi_goto hC 12 dX4_wayIn_30 (by decide) ?_
        exact ih (i + 1) _ _ _ _ _ _ _ (by omega) (gm_fr_tr hfr (gm_fr_ar rfl)) (fun j hj => by
          by_cases q : j = i
          · subst q; exact gm_ar_2 _ _ _ _
          · rw [gm_ar_n _ _ (fun z => q z.2)]; exact hz j (by omega))
  refine gi_aldn hC dX4_wayIn_0 rfl ?_
  refine gf_M_ends hC gw_317 dX4_wayIn_1 ?_
  refine gi_const hC (v := 2) dX4_wayIn_4 (by decide) ?_
  refine gi_ildn hC dX4_wayIn_5 rfl ?_
  refine gi_imul hC dX4_wayIn_6 ?_
  refine gi_iald hC (gm_i6 E) (j := 2 * w) (by omega) (by rw [show (2 : Int32) = nI 2 from rfl, pk_mul]) (by first | decide | omega) dX4_wayIn_7 ?_
  rw [w1]
  refine gi_istn_3 hC dX4_wayIn_8 (by decide) ?_
  refine gi_const hC (v := 0) dX4_wayIn_9 (by decide) ?_
  refine gi_ist_4 hC dX4_wayIn_10 (by decide) ?_
  exact L0 10 0 σ _ _ _ _ _ _ rfl gm_fr_rf (fun j hj => absurd hj (Nat.not_lt_zero j))
