/-! THE ANSWERS of class and reference are the same -/
theorem nI_u {a b : Nat} (h : nI a = nI b) (ha : a < 1000) (hb : b < 1000) : a = b := (nI_eq (by omega) (by omega)).mp h
theorem nI_nm {a : Nat} (ha : a < 1000) : nI a ≠ -1 := by
  have : ∀ a, a < 1000 → nI a ≠ -1 := by decide +kernel
  exact this a ha
/-- the graph that both hold -/
def gOK (n : Nat) (ps : Nat → Bool) (U V : Nat → Nat) : Prop := 1 ≤ n ∧ n ≤ 10 ∧ ∀ e, ps e = true → e < 24 ∧ U e < n ∧ V e < n
theorem gOK_k {σ : gm_S} {n : Nat} {ps : Nat → Bool} {U V : Nat → Nat} (h : kInv σ n ps U V) : gOK n ps U V ∧ jbc (σ.1 1 2) = nI (cnt_lp ps 24 0 0) := by
  obtain ⟨⟨h1, h2, h3, h4, h5, h6, h7⟩, -⟩ := h
  refine ⟨⟨h1, h2, fun e he => ?_⟩, jbc_ok h4 h5⟩
  have h24 : e < 24 := by
    rcases Nat.lt_or_ge e 24 with c | c
    · exact c
    · rw [h5 e c] at he; cases he
  have := h7 e he
  exact ⟨h24, by omega, by omega⟩
theorem kInv_m {σ σ2 : gm_S} {n : Nat} {ps : Nat → Bool} {U V : Nat → Nat} (hm : mFR σ σ2) (h : kInv σ n ps U V) : kInv σ2 n ps U V := by
  have f : ∀ x j, x ≠ 5 → σ2.1 x j = σ.1 x j := fun x j hx => hm.1 x j hx
  have r : ∀ y, ¬ (6 ≤ y ∧ y ≤ 14) → σ2.2 y = σ.2 y := fun y hy => hm.2 y hy
  obtain ⟨⟨h1, h2, h3, h4, h5, h6, h7⟩, hk⟩ := h
  refine ⟨⟨h1, h2, by rw [f 1 3 (by omega)]; exact h3, by rw [f 1 2 (by omega)]; exact h4, h5, gL_cong (r 2 (by omega)) (r 3 (by omega)) h6, h7⟩, fun k hk7 => ?_⟩
  have g : ∀ j, σ2.1 (gm_P k) j = σ.1 (gm_P k) j := fun j => f _ j (by unfold gm_P; omega)
  have hfo : ∀ fol, fo_rep σ k fol → fo_rep σ2 k fol := fun fol h e he => by
    rw [r (gm_P k + 3) (by unfold gm_P; omega)]; exact h e he
  rcases hk k hk7 with ⟨⟨a, ⟨fol, b⟩, c⟩, d⟩ | ⟨q, sz, fol, a, b, c, d, e, f2, g2⟩
  · exact Or.inl ⟨⟨by rw [g]; exact a, ⟨fol, hfo fol b⟩, by rw [g]; exact c⟩, by rw [g]; exact d⟩
  · refine Or.inr ⟨q, sz, fol, by rw [g]; exact a, hfo fol b, by rw [g]; exact c, by rw [g]; exact d, pk_fr hk7 (fun y hy => r y ?_) e, by rw [g]; exact f2, by rw [g]; exact g2⟩
    unfold pk_R gm_P at hy
    omega
theorem mG_k {σ σ2 : gm_S} {n : Nat} {ps : Nat → Bool} {U V : Nat → Nat} (hm : kFR σ σ2) (h : mG σ n ps U V) : mG σ2 n ps U V := by
  obtain ⟨h1, h2, h3, h4, h5, h6, h7⟩ := h
  have r : ∀ y, 6 ≤ y ∧ y ≤ 14 → σ2.2 y = σ.2 y := fun y hy => hm.2 y (fun z => z hy)
  refine ⟨h1, h2, by rw [hm.1 5 0 (fun z => z rfl)]; exact h3, fun e he => by rw [r 7 (by omega)]; exact h4 e he, fun e he => by rw [r 6 (by omega)]; exact h5 e he, h6, h7⟩
section AN
variable {n : Nat} {ps : Nat → Bool} {U V : Nat → Nat}
theorem hdd_fit (hg : gOK n ps U V) (k : Nat) : gp_fit U V k (fun e => hdd n U V ps k e = true) := by
  obtain ⟨a1, a2, -⟩ := pkd_ok (n := n) (b := False) hg.2.1 hg.2.2 (Or.inl ⟨id, fun _ => none, _, (rfl : pk_lp k U V ps 24 0 (pq0, 0, fun _ => none) = ((pk_lp k U V ps 24 0 (pq0, 0, fun _ => none)).1, (pk_lp k U V ps 24 0 (pq0, 0, fun _ => none)).2.1, (pk_lp k U V ps 24 0 (pq0, 0, fun _ => none)).2.2))⟩)
  exact ⟨_, pqI_ok a1, a2⟩
theorem wb_lp_is {H : Nat → Bool} {k e : Nat} : ∀ m f T i, wb_lp n U V H k e m f T i = true ↔ T i = true ∨ (f ≤ i ∧ i < f + m ∧ H i = true ∧ ftb n U V (fun j => (H j && !decide (j = i)) || decide (j = e)) k none = true)
  | 0, f, T, i => ⟨Or.inl, fun h => h.elim id (fun z => by omega)⟩
  | m + 1, f, T, i => by
    rw [wb_lp]
    by_cases c : H f = true ∧ ftb n U V (fun i => (H i && !decide (i = f)) || decide (i = e)) k none = true
    · rw [if_pos c, wb_lp_is m (f + 1)]
      rw [Bool.or_eq_true, decide_eq_true_eq]
      constructor
      · rintro ((z | z) | z)
        · exact Or.inl z
        · subst z; exact Or.inr ⟨by omega, by omega, c⟩
        · exact Or.inr ⟨by omega, by omega, z.2.2⟩
      · rintro (z | z)
        · exact Or.inl (Or.inl z)
        · by_cases q : i = f
          · exact Or.inl (Or.inr q)
          · exact Or.inr ⟨by omega, by omega, z.2.2⟩
    · rw [if_neg c, wb_lp_is m (f + 1)]
      constructor
      · rintro (z | z)
        · exact Or.inl z
        · exact Or.inr ⟨by omega, by omega, z.2.2⟩
      · rintro (z | z)
        · exact Or.inl z
        · by_cases q : i = f
          · subst q; exact absurd z.2.2 c
          · exact Or.inr ⟨by omega, by omega, z.2.2⟩
/-- a packing that holds what the counts allow -/
def pkOK (n : Nat) (ps : Nat → Bool) (U V : Nat → Nat) (k : Nat) (q : pq) : Prop := pqI U V k q ∧ (∀ x, hdd n U V ps k x = true ↔ q.1 x ≠ none) ∧ ∀ x, hdd n U V ps k x = true → ps x = true
theorem pkd_pk (hg : gOK n ps U V) {k sz : Nat} {q : pq} {b : Prop} (h : pkd k U V ps q sz b) : pkOK n ps U V k q ∧ sz = cnt_lp (hdd n U V ps k) 24 0 0 := by
  obtain ⟨a1, a2, a3, a4, -⟩ := pkd_ok hg.2.1 hg.2.2 h
  exact ⟨⟨a1, a2, a4⟩, a3⟩
theorem pk_E (hg : gOK n ps U V) {k : Nat} {q : pq} (h : pkOK n ps U V k q) : ∀ e, q.1 e ≠ none → U e < n ∧ V e < n := fun e he => (hg.2.2 e (h.2.2 e ((h.2.1 e).mpr he))).2
theorem pk_P {k : Nat} {q : pq} (h : pkOK n ps U V k q) : ∀ e, q.1 e ≠ none → ps e = true := fun e he => h.2.2 e ((h.2.1 e).mpr he)
theorem rsn_wyb (hg : gOK n ps U V) {k : Nat} {q : pq} (h : pkOK n ps U V k q) {e : Nat} (he : ps e = true) (hq : q.1 e = none) (fol : Nat → Option Nat) : rsn k U V ps q e fol = wyb n U V (hdd n U V ps k) k e := by
  obtain ⟨e24, eU, eV⟩ := hg.2.2 e he
  have hnone : (fnd k U V ps q (fun _ => false) (U e) (V e) fol).1 = none := by
    have hft := fnd_ft hg.2.1 h.1 (pk_P h) (pk_E hg h) h.2.1 hq e24 eU eV fol
    by_cases c : (fnd k U V ps q (fun _ => false) (U e) (V e) fol).1 = none
    · exact c
    · exfalso
      -- the counts would have let e in
      have hb := hft.mp c
      have key : ∀ m d S, d + m = 24 → (∀ x, S x = true → hdd n U V ps k x = true) → hd_lp n U V ps k m d S = hdd n U V ps k → d ≤ e → hdd n U V ps k e = true := by
        intro m
        induction m with
        | zero => intro d S h1 _ _ h4; omega
        | succ m ih =>
          intro d S h1 h2 h3 h4
          rw [hd_lp] at h3
          by_cases q2 : d = e
          · subst q2
            have hb2 : ftb n U V (fun i => S i || decide (i = d)) k none = true := by
              rw [ftb_iff, FT_nw hg.2.1] at hb ⊢
              intro A hA hAn
              refine Nat.le_trans (gc_mono (fun x _ hx => ⟨?_, hx.2⟩)) (hb A hA hAn)
              have this : (S x || decide (x = d)) = true := hx.1
              show (hdd n U V ps k x || decide (x = d)) = true
              rw [Bool.or_eq_true] at this ⊢
              exact this.elim (fun z => Or.inl (h2 x z)) Or.inr
            rw [if_pos ⟨he, hb2⟩] at h3
            have mono : ∀ m d S x, S x = true → hd_lp n U V ps k m d S x = true := by
              intro m
              induction m with
              | zero => intro d S x hx; exact hx
              | succ m ih2 =>
                intro d S x hx
                rw [hd_lp]
                split
                · exact ih2 _ _ x (by rw [hx]; rfl)
                · exact ih2 _ _ x hx
            rw [← h3]
            exact mono m (d + 1) _ d (by simp)
          · by_cases c2 : ps d = true ∧ ftb n U V (fun i => S i || decide (i = d)) k none = true
            · rw [if_pos c2] at h3
              have mono : ∀ m d S x, S x = true → hd_lp n U V ps k m d S x = true := by
                intro m
                induction m with
                | zero => intro d S x hx; exact hx
                | succ m ih2 =>
                  intro d S x hx
                  rw [hd_lp]
                  split
                  · exact ih2 _ _ x (by rw [hx]; rfl)
                  · exact ih2 _ _ x hx
              exact ih (d + 1) _ (by omega) (fun x hx => by rw [← h3]; exact mono m (d + 1) _ x hx) h3 (by omega)
            · rw [if_neg c2] at h3
              exact ih (d + 1) S (by omega) h2 h3 (by omega)
      have := key 24 0 (fun _ => false) rfl (fun x hx => by cases hx) rfl (Nat.zero_le e)
      exact (h.2.1 e).mp this hq
  funext i
  have hw := fnd_why hg.2.1 h.1 (pk_P h) (pk_E hg h) h.2.1 hq e24 eU eV fol hnone i
  have hi : ∀ {a b : Bool}, (a = true ↔ b = true) → a = b := fun {a b} z => by cases a <;> cases b <;> simp at z ⊢
  apply hi
  rw [rsn, wyb, wb_lp_is, Bool.or_eq_true, hw, decide_eq_true_eq]
  constructor
  · rintro (z | z)
    · have := (hg.2.2 i (h.2.2 i z.1)).1
      exact Or.inr ⟨by omega, by omega, z⟩
    · exact Or.inl z
  · rintro (z | z)
    · exact Or.inr z
    · exact Or.inl z.2.2
theorem fnd_t (hg : gOK n ps U V) {k : Nat} {q : pq} (h : pkOK n ps U V k q) {a b : Nat} (ha : a < n) (hb : b < n) (fol : Nat → Option Nat) : (fnd k U V ps q (fun _ => false) a b fol).1 = none ↔ tgt n U V (hdd n U V ps k) k a b = true := fnd_tgt hg.2.1 h.1 (pk_P h) (pk_E hg h) h.2.1 ha hb fol
theorem tgt_sym {H : Nat → Bool} {k a b : Nat} : tgt n U V H k a b = tgt n U V H k b a := by
  have hm : ∀ p, m0 p (some (a, b)) = m0 p (some (b, a)) := fun p => by
    show (if _ then _ else _) = (if _ then _ else _)
    by_cases c : p.testBit a = true ∧ p.testBit b = true
    · rw [if_pos c, if_pos ⟨c.2, c.1⟩]
    · rw [if_neg c, if_neg (fun z => c ⟨z.2, z.1⟩)]
  have hf : ftb n U V H k (some (a, b)) = ftb n U V H k (some (b, a)) := by
    have hi : ∀ {a b : Bool}, (a = true ↔ b = true) → a = b := fun {a b} z => by cases a <;> cases b <;> simp at z ⊢
    apply hi
    rw [ftb_iff, ftb_iff]
    refine forall_congr' fun p => forall_congr' fun _ => forall_congr' fun _ => ?_
    rw [wcn_gc, wcn_gc, hm]
  unfold tgt
  rw [hf]
  by_cases c : a = b
  · subst c; rfl
  · simp [c, Ne.symm c]
theorem ifc_is (hg : gOK n ps U V) {k : Nat} {q : pq} (h : pkOK n ps U V k q) {v : Nat} (hv : v < n) : ∀ m u fol, u + m ≤ v → ((ifc k U V ps q (fun _ => false) v m u fol).1 = true ↔ ∀ b, u ≤ b → b < u + m → tgt n U V (hdd n U V ps k) k v b = false)
  | 0, u, fol, _ => ⟨fun _ b h1 h2 => by omega, fun _ => rfl⟩
  | m + 1, u, fol, hu => by
    rw [ifc]
    have hf := fnd_t hg h (a := u) (b := v) (by omega) hv fol
    generalize fnd k U V ps q (fun _ => false) u v fol = r at hf
    obtain ⟨o, s⟩ := r
    cases o with
    | none =>
      have ht : tgt n U V (hdd n U V ps k) k u v = true := hf.mp rfl
      refine ⟨fun z => (by cases z), fun z => ?_⟩
      have := z u (Nat.le_refl u) (by omega)
      rw [tgt_sym, ht] at this
      cases this
    | some x =>
      have ht : tgt n U V (hdd n U V ps k) k v u = false := by
        rw [tgt_sym]
        cases hb : tgt n U V (hdd n U V ps k) k u v with
        | false => rfl
        | true => have := hf.mpr hb; cases this
      have ih := ifc_is hg h hv m (u + 1) s.2.2 (by omega)
      refine Iff.trans ih ⟨fun z b h1 h2 => ?_, fun z b h1 h2 => z b (by omega) (by omega)⟩
      by_cases c : b = u
      · subst c; exact ht
      · exact z b (by omega) (by omega)
theorem fst_is {H : Nat → Bool} {k a : Nat} : ∀ m b r, (fst_lp n U V H k a m b r = true ↔ r = true ∧ ∀ c, b ≤ c → c < b + m → tgt n U V H k a c = false)
  | 0, b, r => ⟨fun h => ⟨h, fun c h1 h2 => by omega⟩, fun h => h.1⟩
  | m + 1, b, r => by
    rw [fst_lp, fst_is m (b + 1)]
    constructor
    · rintro ⟨h1, h2⟩
      rw [Bool.and_eq_true, Bool.not_eq_true'] at h1
      refine ⟨h1.1, fun c c1 c2 => ?_⟩
      by_cases q : c = b
      · subst q; exact h1.2
      · exact h2 c (by omega) (by omega)
    · rintro ⟨h1, h2⟩
      refine ⟨?_, fun c c1 c2 => h2 c (by omega) (by omega)⟩
      rw [h1, h2 b (Nat.le_refl b) (by omega)]; rfl
theorem cl_is (hg : gOK n ps U V) {k : Nat} {q : pq} (h : pkOK n ps U V k q) : ∀ m v c fol, v + m = n → (cl_lp k U V ps q m v c fol).1 = mcl_lp n U V (hdd n U V ps k) k m v c
  | 0, v, c, fol, _ => rfl
  | m + 1, v, c, fol, hv => by
    rw [cl_lp, mcl_lp]
    have hi := ifc_is hg h (v := v) (by omega) v 0 fol (by omega)
    have hs := fst_is (n := n) (U := U) (V := V) (H := hdd n U V ps k) (k := k) (a := v) v 0 true
    generalize ifc k U V ps q (fun _ => false) v v 0 fol = r at hi
    obtain ⟨b, fo2⟩ := r
    cases b with
    | true =>
      rw [if_pos (hs.mpr ⟨rfl, hi.mp rfl⟩)]
      exact cl_is hg h m (v + 1) (c + 1) fo2 (by omega)
    | false =>
      rw [if_neg (fun z => by have := hi.mpr (hs.mp z).2; cases this)]
      exact cl_is hg h m (v + 1) c fo2 (by omega)
theorem cr_is (hg : gOK n ps U V) {k : Nat} {q : pq} (h : pkOK n ps U V k q) : ∀ m e c fol, (cr_lp k U V ps q m e c fol).1 = mcr_lp n U V ps (hdd n U V ps k) k m e c
  | 0, e, c, fol => rfl
  | m + 1, e, c, fol => by
    rw [cr_lp, mcr_lp]
    by_cases hp : ps e = true
    · rw [if_pos hp]
      obtain ⟨p1, p2, p3⟩ := hg.2.2 e hp
      have hf := fnd_t hg h p2 p3 fol
      generalize fnd k U V ps q (fun _ => false) (U e) (V e) fol = r at hf
      obtain ⟨o, s⟩ := r
      cases o with
      | none =>
        rw [if_neg (fun z => by rw [hf.mp rfl] at z; cases z.2)]
        exact cr_is hg h m (e + 1) c s.2.2
      | some x =>
        rw [if_pos ⟨hp, by
          cases hb : tgt n U V (hdd n U V ps k) k (U e) (V e) with
          | false => rfl
          | true => have := hf.mpr hb; cases this⟩]
        exact cr_is hg h m (e + 1) (c + 1) s.2.2
    · rw [if_neg hp, if_neg (fun z => hp z.1)]
      exact cr_is hg h m (e + 1) c fol
theorem cnt24 (P : Nat → Bool) : cnt_lp P 24 0 0 ≤ 24 := by have := cnt_lp_le P 24 0 0; omega
theorem arb_marb (hg : gOK n ps U V) {p r : Int32} (hp : jbc p = nI (cnt_lp ps 24 0 0)) (h : arbP U V ps p r) : marb n U V ps r := by
  have e1 : ∀ {k sz : Nat} {q : pq} {b : Prop}, pkd k U V ps q sz b → (nI sz = jbc p ↔ cnt_lp (hdd n U V ps k) 24 0 0 = cnt_lp ps 24 0 0) := fun {k sz q b} hd => by
    rw [hp, (pkd_pk hg hd).2]
    exact nI_eq (by have := cnt24 (hdd n U V ps k); omega) (by have := cnt24 ps; omega)
  rcases h with ⟨kk, h1, h2, ⟨q, sz, b, h3, h4⟩, h5⟩ | ⟨h1, h2⟩
  · refine Or.inl ⟨kk, h1, h2, (e1 h3).mp h4, fun k2 hk2 hc => ?_⟩
    obtain ⟨q2, sz2, b2, g3, g4⟩ := h5 k2 hk2
    exact g4 ((e1 g3).mpr hc)
  · refine Or.inr ⟨h1, fun k2 hk2 hc => ?_⟩
    obtain ⟨q2, sz2, b2, g3, g4⟩ := h2 k2 hk2
    exact g4 ((e1 g3).mpr hc)
theorem marb_u {r t : Int32} (h : marb n U V ps r) (g : marb n U V ps t) : r = t := by
  rcases h with ⟨kk, h1, h2, h3, h4⟩ | ⟨h1, h2⟩
  · rcases g with ⟨k2, g1, g2, g3, g4⟩ | ⟨g1, g2⟩
    · rcases Nat.lt_trichotomy kk k2 with c | c | c
      · exact absurd h3 (g4 kk c)
      · rw [h2, g2, c]
      · exact absurd g3 (h4 k2 c)
    · exact absurd h3 (g2 kk h1)
  · rcases g with ⟨k2, g1, g2, g3, g4⟩ | ⟨g1, g2⟩
    · exact absurd g3 (h2 k2 g1)
    · rw [h1, g1]
theorem a_most (hg : gOK n ps U V) {k r t : Int32} (h : (r = -2 ∧ ¬ ∃ j, j < 7 ∧ k = nI j) ∨ ∃ kk, kk < 7 ∧ k = nI kk ∧ ∃ q sz b, pkd kk U V ps q sz b ∧ r = nI sz) (g : (t = -2 ∧ ¬ ∃ j, j < 7 ∧ k = nI j) ∨ ∃ kk, kk < 7 ∧ k = nI kk ∧ t = nI (cnt_lp (hdd n U V ps kk) 24 0 0)) : r = t := by
  rcases h with ⟨h1, h2⟩ | ⟨kk, h1, h2, q, sz, b, h3, h4⟩
  · rcases g with ⟨g1, g2⟩ | ⟨k2, g1, g2, g3⟩
    · rw [h1, g1]
    · exact absurd ⟨k2, g1, g2⟩ h2
  · rcases g with ⟨g1, g2⟩ | ⟨k2, g1, g2, g3⟩
    · exact absurd ⟨kk, h1, h2⟩ g2
    · have : kk = k2 := nI_u (h2.symm.trans g2) (by omega) (by omega)
      subst this
      rw [h4, g3, (pkd_pk hg h3).2]
theorem a_held (hg : gOK n ps U V) {k a r t : Int32} (h : (r = -2 ∧ ¬ ∃ j, j < 7 ∧ k = nI j) ∨ ∃ kk, kk < 7 ∧ k = nI kk ∧ ((r = -1 ∧ ¬ ∃ e, e < 24 ∧ a = nI e ∧ ps e = true) ∨ ∃ e, e < 24 ∧ a = nI e ∧ ps e = true ∧ ∃ q sz b, pkd kk U V ps q sz b ∧ r = if q.1 e = none then 0 else 1)) (g : (t = -2 ∧ ¬ ∃ j, j < 7 ∧ k = nI j) ∨ ∃ kk, kk < 7 ∧ k = nI kk ∧ ((t = -1 ∧ ¬ ∃ e, e < 24 ∧ a = nI e ∧ ps e = true) ∨ ∃ e, e < 24 ∧ a = nI e ∧ ps e = true ∧ t = if hdd n U V ps kk e = true then 1 else 0)) : r = t := by
  rcases h with ⟨h1, h2⟩ | ⟨kk, h1, h2, h3⟩
  · rcases g with ⟨g1, g2⟩ | ⟨k2, g1, g2, g3⟩
    · rw [h1, g1]
    · exact absurd ⟨k2, g1, g2⟩ h2
  · rcases g with ⟨g1, g2⟩ | ⟨k2, g1, g2, g3⟩
    · exact absurd ⟨kk, h1, h2⟩ g2
    · have : kk = k2 := nI_u (h2.symm.trans g2) (by omega) (by omega)
      subst this
      rcases h3 with ⟨h3, h4⟩ | ⟨e, h3, h4, h5, q, sz, b, h6, h7⟩
      · rcases g3 with ⟨g3, g4⟩ | ⟨e2, g3, g4, g5, g6⟩
        · rw [h3, g3]
        · exact absurd ⟨e2, g3, g4, g5⟩ h4
      · rcases g3 with ⟨g3, g4⟩ | ⟨e2, g3, g4, g5, g6⟩
        · exact absurd ⟨e, h3, h4, h5⟩ g4
        · have : e = e2 := nI_u (h4.symm.trans g4) (by omega) (by omega)
          subst this
          rw [h7, g6]
          have := (pkd_pk hg h6).1.2.1 e
          by_cases c : q.1 e = none
          · rw [if_pos c, if_neg (fun z => this.mp z c)]
          · rw [if_neg c, if_pos (this.mpr c)]
theorem a_forest (hg : gOK n ps U V) {k a r t : Int32} (h : (r = -2 ∧ ¬ ∃ j, j < 7 ∧ k = nI j) ∨ ∃ kk, kk < 7 ∧ k = nI kk ∧ ((r = -1 ∧ ¬ ∃ e, e < 24 ∧ a = nI e ∧ ps e = true) ∨ ∃ e, e < 24 ∧ a = nI e ∧ ps e = true ∧ ∃ q sz, pkd kk U V ps q sz True ∧ r = oI (q.1 e))) (g : (t = -2 ∧ ¬ ∃ j, j < 7 ∧ k = nI j) ∨ ∃ kk, kk < 7 ∧ k = nI kk ∧ ((t = -1 ∧ ¬ ∃ e, e < 24 ∧ a = nI e ∧ ps e = true) ∨ ∃ e, e < 24 ∧ a = nI e ∧ ps e = true ∧ ∃ p, gp_ok U V kk p ∧ (∀ e, p e ≠ none ↔ hdd n U V ps kk e = true) ∧ LM U V kk (hdd n U V ps kk) p 24 ∧ t = oI (p e))) : r = t := by
  rcases h with ⟨h1, h2⟩ | ⟨kk, h1, h2, h3⟩
  · rcases g with ⟨g1, g2⟩ | ⟨k2, g1, g2, g3⟩
    · rw [h1, g1]
    · exact absurd ⟨k2, g1, g2⟩ h2
  · rcases g with ⟨g1, g2⟩ | ⟨k2, g1, g2, g3⟩
    · exact absurd ⟨kk, h1, h2⟩ g2
    · have : kk = k2 := nI_u (h2.symm.trans g2) (by omega) (by omega)
      subst this
      rcases h3 with ⟨h3, h4⟩ | ⟨e, h3, h4, h5, q, sz, h6, h7⟩
      · rcases g3 with ⟨g3, g4⟩ | ⟨e2, g3, g4, g5, g6⟩
        · rw [h3, g3]
        · exact absurd ⟨e2, g3, g4, g5⟩ h4
      · rcases g3 with ⟨g3, g4⟩ | ⟨e2, g3, g4, g5, p, g6, g7, g8, g9⟩
        · exact absurd ⟨e, h3, h4, h5⟩ g4
        · have : e = e2 := nI_u (h4.symm.trans g4) (by omega) (by omega)
          subst this
          obtain ⟨a1, a2, -, -, a5⟩ := pkd_ok hg.2.1 hg.2.2 h6
          rw [h7, g9, LM_uniq (a5 trivial) g8 (pqI_ok a1) g6 (fun x => (a2 x).symm) g7 e h3]
theorem a_why (hg : gOK n ps U V) {k a f r t : Int32} (h : (r = -2 ∧ ¬ ∃ j, j < 7 ∧ k = nI j) ∨ ∃ kk, kk < 7 ∧ k = nI kk ∧ ((r = -1 ∧ ¬ ((∃ e, e < 24 ∧ a = nI e ∧ ps e = true) ∧ (f = -1 ∨ ∃ e, e < 24 ∧ f = nI e ∧ ps e = true))) ∨ ∃ e, e < 24 ∧ a = nI e ∧ ps e = true ∧ (f = -1 ∨ ∃ d, d < 24 ∧ f = nI d ∧ ps d = true) ∧ ∃ q sz b, pkd kk U V ps q sz b ∧ ((q.1 e ≠ none ∧ r = -1) ∨ (q.1 e = none ∧ ∃ fol m, bm m (rsn kk U V ps q e fol) ∧ ((f = -1 ∧ r = jbc m) ∨ ∃ d, d < 24 ∧ f = nI d ∧ r = if bt m d = true then 1 else 0)))))
    (g : (t = -2 ∧ ¬ ∃ j, j < 7 ∧ k = nI j) ∨ ∃ kk, kk < 7 ∧ k = nI kk ∧ ((t = -1 ∧ ¬ ((∃ e, e < 24 ∧ a = nI e ∧ ps e = true) ∧ (f = -1 ∨ ∃ e, e < 24 ∧ f = nI e ∧ ps e = true))) ∨ ∃ e, e < 24 ∧ a = nI e ∧ ps e = true ∧ (f = -1 ∨ ∃ d, d < 24 ∧ f = nI d ∧ ps d = true) ∧ ((hdd n U V ps kk e = true ∧ t = -1) ∨ (hdd n U V ps kk e = false ∧ ((f = -1 ∧ t = nI (cnt_lp (wyb n U V (hdd n U V ps kk) kk e) 24 0 0)) ∨ ∃ d, d < 24 ∧ f = nI d ∧ t = if wyb n U V (hdd n U V ps kk) kk e d = true then 1 else 0))))) : r = t := by
  rcases h with ⟨h1, h2⟩ | ⟨kk, h1, h2, h3⟩
  · rcases g with ⟨g1, g2⟩ | ⟨k2, g1, g2, g3⟩
    · rw [h1, g1]
    · exact absurd ⟨k2, g1, g2⟩ h2
  · rcases g with ⟨g1, g2⟩ | ⟨k2, g1, g2, g3⟩
    · exact absurd ⟨kk, h1, h2⟩ g2
    · have : kk = k2 := nI_u (h2.symm.trans g2) (by omega) (by omega)
      subst this
      rcases h3 with ⟨h3, h4⟩ | ⟨e, h3, h4, h5, h55, q, sz, b, h6, h7⟩
      · rcases g3 with ⟨g3, g4⟩ | ⟨e2, g3, g4, g5, g55, g6⟩
        · rw [h3, g3]
        · exact absurd ⟨⟨e2, g3, g4, g5⟩, g55⟩ h4
      · rcases g3 with ⟨g3, g4⟩ | ⟨e2, g3, g4, g5, g55, g6⟩
        · exact absurd ⟨⟨e, h3, h4, h5⟩, h55⟩ g4
        · have : e = e2 := nI_u (h4.symm.trans g4) (by omega) (by omega)
          subst this
          have hpk := (pkd_pk hg h6).1
          have hiff := hpk.2.1 e
          rcases h7 with ⟨h7, h8⟩ | ⟨h7, fol, m, h8, h9⟩
          · rcases g6 with ⟨g6, g7⟩ | ⟨g6, g7⟩
            · rw [h8, g7]
            · rw [hiff.mpr h7] at g6; cases g6
          · rcases g6 with ⟨g6, g7⟩ | ⟨g6, g7⟩
            · exact absurd h7 (hiff.mp g6)
            · have hrw := rsn_wyb hg hpk h5 h7 fol
              have hout : ∀ i, 24 ≤ i → wyb n U V (hdd n U V ps kk) kk e i = false := fun i hi => by
                cases hb : wyb n U V (hdd n U V ps kk) kk e i with
                | false => rfl
                | true =>
                  rw [wyb, wb_lp_is, decide_eq_true_eq] at hb
                  rcases hb with c | c <;> omega
              rw [hrw] at h8
              rcases h9 with ⟨h9, h10⟩ | ⟨d, h9, h10, h11⟩
              · rcases g7 with ⟨g7, g8⟩ | ⟨d2, g7, g8, g9⟩
                · rw [h10, g8, jbc_ok h8 hout]
                · exact absurd (g8.symm.trans h9) (nI_nm (by omega))
              · rcases g7 with ⟨g7, g8⟩ | ⟨d2, g7, g8, g9⟩
                · exact absurd (h10.symm.trans g7) (nI_nm (by omega))
                · have : d = d2 := nI_u (h10.symm.trans g8) (by omega) (by omega)
                  subst this
                  rw [h11, g9, h8 d (by omega)]
theorem a_tight (hg : gOK n ps U V) {k a b r t : Int32} (h : (r = -2 ∧ ¬ ((∃ j, j < 7 ∧ k = nI j) ∧ (∃ i, i < n ∧ a = nI i) ∧ ∃ j, j < n ∧ b = nI j)) ∨ ∃ kk i j, kk < 7 ∧ k = nI kk ∧ i < n ∧ a = nI i ∧ j < n ∧ b = nI j ∧ ∃ q sz b fol, pkd kk U V ps q sz b ∧ r = if (fnd kk U V ps q (fun _ => false) i j fol).1 = none then 1 else 0) (g : (t = -2 ∧ ¬ ((∃ j, j < 7 ∧ k = nI j) ∧ (∃ i, i < n ∧ a = nI i) ∧ ∃ j, j < n ∧ b = nI j)) ∨ ∃ kk i j, kk < 7 ∧ k = nI kk ∧ i < n ∧ a = nI i ∧ j < n ∧ b = nI j ∧ t = if tgt n U V (hdd n U V ps kk) kk i j = true then 1 else 0) : r = t := by
  have hn := hg.2.1
  rcases h with ⟨h1, h2⟩ | ⟨kk, i, j, h1, h2, h3, h4, h5, h6, q, sz, b2, fol, h7, h8⟩
  · rcases g with ⟨g1, g2⟩ | ⟨k2, i2, j2, g1, g2, g3, g4, g5, g6, g7⟩
    · rw [h1, g1]
    · exact absurd ⟨⟨k2, g1, g2⟩, ⟨i2, g3, g4⟩, ⟨j2, g5, g6⟩⟩ h2
  · rcases g with ⟨g1, g2⟩ | ⟨k2, i2, j2, g1, g2, g3, g4, g5, g6, g7⟩
    · exact absurd ⟨⟨kk, h1, h2⟩, ⟨i, h3, h4⟩, ⟨j, h5, h6⟩⟩ g2
    · have e1 : kk = k2 := nI_u (h2.symm.trans g2) (by omega) (by omega)
      have e2 : i = i2 := nI_u (h4.symm.trans g4) (by omega) (by omega)
      have e3 : j = j2 := nI_u (h6.symm.trans g6) (by omega) (by omega)
      subst e1 e2 e3
      have := fnd_t hg (pkd_pk hg h7).1 h3 h5 fol
      rw [h8, g7]
      by_cases c : (fnd kk U V ps q (fun _ => false) i j fol).1 = none
      · rw [if_pos c, if_pos (this.mp c)]
      · rw [if_neg c, if_neg (fun z => c (this.mpr z))]
theorem a_classes (hg : gOK n ps U V) {k r t : Int32} (h : (r = -2 ∧ ¬ ∃ j, j < 7 ∧ k = nI j) ∨ ∃ kk, kk < 7 ∧ k = nI kk ∧ ∃ q sz b, pkd kk U V ps q sz b ∧ ∃ fol, r = nI (cl_lp kk U V ps q n 0 0 fol).1) (g : (t = -2 ∧ ¬ ∃ j, j < 7 ∧ k = nI j) ∨ ∃ kk, kk < 7 ∧ k = nI kk ∧ t = nI (mcl_lp n U V (hdd n U V ps kk) kk n 0 0)) : r = t := by
  rcases h with ⟨h1, h2⟩ | ⟨kk, h1, h2, q, sz, b, h3, fol, h4⟩
  · rcases g with ⟨g1, g2⟩ | ⟨k2, g1, g2, g3⟩
    · rw [h1, g1]
    · exact absurd ⟨k2, g1, g2⟩ h2
  · rcases g with ⟨g1, g2⟩ | ⟨k2, g1, g2, g3⟩
    · exact absurd ⟨kk, h1, h2⟩ g2
    · have : kk = k2 := nI_u (h2.symm.trans g2) (by omega) (by omega)
      subst this
      rw [h4, g3, cl_is hg (pkd_pk hg h3).1 n 0 0 fol (by omega)]
theorem a_crossing (hg : gOK n ps U V) {k r t : Int32} (h : (r = -2 ∧ ¬ ∃ j, j < 7 ∧ k = nI j) ∨ ∃ kk, kk < 7 ∧ k = nI kk ∧ ∃ q sz b, pkd kk U V ps q sz b ∧ ∃ fol, r = nI (cr_lp kk U V ps q 24 0 0 fol).1) (g : (t = -2 ∧ ¬ ∃ j, j < 7 ∧ k = nI j) ∨ ∃ kk, kk < 7 ∧ k = nI kk ∧ t = nI (mcr_lp n U V ps (hdd n U V ps kk) kk 24 0 0)) : r = t := by
  rcases h with ⟨h1, h2⟩ | ⟨kk, h1, h2, q, sz, b, h3, fol, h4⟩
  · rcases g with ⟨g1, g2⟩ | ⟨k2, g1, g2, g3⟩
    · rw [h1, g1]
    · exact absurd ⟨k2, g1, g2⟩ h2
  · rcases g with ⟨g1, g2⟩ | ⟨k2, g1, g2, g3⟩
    · exact absurd ⟨kk, h1, h2⟩ g2
    · have : kk = k2 := nI_u (h2.symm.trans g2) (by omega) (by omega)
      subst this
      rw [h4, g3, cr_is hg (pkd_pk hg h3).1 24 0 0 fol]
theorem a_dense (hg : gOK n ps U V) {p r t : Int32} (hp : jbc p = nI (cnt_lp ps 24 0 0)) (h : (r = -1 ∧ arbP U V ps p (-1)) ∨ (r = 0 ∧ arbP U V ps p (nI 0)) ∨ ∃ kk, kk + 1 < 7 ∧ arbP U V ps p (nI (kk + 1)) ∧ ∃ q sz b, pkd kk U V ps q sz b ∧ ((r = 0 ∧ ∀ e, e < 24 → ¬ (ps e = true ∧ q.1 e = none)) ∨ ∃ e fol, e < 24 ∧ ps e = true ∧ q.1 e = none ∧ (∀ d, d < e → ¬ (ps d = true ∧ q.1 d = none)) ∧ bm r (vs_lp U V (rsn kk U V ps q e fol) 24 0 (fun _ => false)))) (g : (t = -1 ∧ marb n U V ps (-1)) ∨ (t = 0 ∧ marb n U V ps (nI 0)) ∨ ∃ kk e, kk + 1 < 7 ∧ marb n U V ps (nI (kk + 1)) ∧ e < 24 ∧ ps e = true ∧ hdd n U V ps kk e = false ∧ (∀ d, d < e → ¬ (ps d = true ∧ hdd n U V ps kk d = false)) ∧ bm t (vs_lp U V (wyb n U V (hdd n U V ps kk) kk e) 24 0 (fun _ => false))) : r = t := by
  have e0 : nI 0 ≠ -1 := nI_nm (by omega)
  rcases h with ⟨h1, h2⟩ | ⟨h1, h2⟩ | ⟨kk, h1, h2, q, sz, b, h3, h4⟩
  · rcases g with ⟨g1, g2⟩ | ⟨g1, g2⟩ | ⟨k2, e, g1, g2, g3⟩
    · rw [h1, g1]
    · exact absurd (marb_u g2 (arb_marb hg hp h2)) e0
    · exact absurd (marb_u g2 (arb_marb hg hp h2)) (nI_nm (by omega))
  · rcases g with ⟨g1, g2⟩ | ⟨g1, g2⟩ | ⟨k2, e, g1, g2, g3⟩
    · exact absurd (marb_u (arb_marb hg hp h2) g2) e0
    · rw [h1, g1]
    · have := nI_u (marb_u (arb_marb hg hp h2) g2) (by omega) (by omega)
      omega
  · rcases g with ⟨g1, g2⟩ | ⟨g1, g2⟩ | ⟨k2, e2, g1, g2, g3, g4, g5, g6, g7⟩
    · exact absurd (marb_u (arb_marb hg hp h2) g2) (nI_nm (by omega))
    · have := nI_u (marb_u (arb_marb hg hp h2) g2) (by omega) (by omega)
      omega
    · have := nI_u (marb_u (arb_marb hg hp h2) g2) (by omega) (by omega)
      have : kk = k2 := by omega
      subst this
      have hpk := (pkd_pk hg h3).1
      have hiff : ∀ x, q.1 x = none ↔ hdd n U V ps kk x = false := fun x => by
        have := hpk.2.1 x
        constructor
        · intro c
          cases hb : hdd n U V ps kk x with
          | false => rfl
          | true => exact absurd c (this.mp hb)
        · intro c
          by_cases c2 : q.1 x = none
          · exact c2
          · rw [this.mpr c2] at c; cases c
      rcases h4 with ⟨h4, h5⟩ | ⟨e, fol, h4, h5, h6, h7, h8⟩
      · exact absurd ⟨g4, (hiff e2).mpr g5⟩ (h5 e2 g3)
      · have : e = e2 := by
          rcases Nat.lt_trichotomy e e2 with c | c | c
          · exact absurd ⟨h5, (hiff e).mp h6⟩ (g6 e c)
          · exact c
          · exact absurd ⟨g4, (hiff e2).mpr g5⟩ (h7 e2 c)
        subst this
        rw [rsn_wyb hg hpk h5 h6 fol] at h8
        exact bm_inj h8 g7
theorem a_spanning (hg : gOK n ps U V) {r t : Int32} (h : (∃ kk, 1 ≤ kk ∧ kk < 7 ∧ r = nI kk ∧ (∃ q sz b, pkd kk U V ps q sz b ∧ nI sz = nI kk * (nI n - 1)) ∧ ∀ k2, kk < k2 → k2 < 7 → ∃ q sz b, pkd k2 U V ps q sz b ∧ nI sz ≠ nI k2 * (nI n - 1)) ∨ (r = 0 ∧ ∀ k2, 1 ≤ k2 → k2 < 7 → ∃ q sz b, pkd k2 U V ps q sz b ∧ nI sz ≠ nI k2 * (nI n - 1))) (g : ∃ kk, kk < 7 ∧ t = nI kk ∧ cnt_lp (hdd n U V ps kk) 24 0 0 = kk * (n - 1) ∧ ∀ k2, kk < k2 → k2 < 7 → cnt_lp (hdd n U V ps k2) 24 0 0 ≠ k2 * (n - 1)) : r = t := by
  have hmul : ∀ n, n < 11 → 1 ≤ n → ∀ k, k < 7 → nI k * (nI n - 1) = nI (k * (n - 1)) ∧ k * (n - 1) < 1000 := by decide +kernel
  have e1 : ∀ {k sz : Nat} {q : pq} {b : Prop}, k < 7 → pkd k U V ps q sz b → (nI sz = nI k * (nI n - 1) ↔ cnt_lp (hdd n U V ps k) 24 0 0 = k * (n - 1)) := fun {k sz q b} hk hd => by
    have hq := hmul n (by have := hg.2.1; omega) hg.1 k hk
    rw [(pkd_pk hg hd).2, hq.1]
    exact nI_eq (by have := cnt24 (hdd n U V ps k); omega) (by omega)
  obtain ⟨kg, g1, g2, g3, g4⟩ := g
  rcases h with ⟨kk, h0, h1, h2, ⟨q, sz, b, h3, h4⟩, h5⟩ | ⟨h1, h2⟩
  · rcases Nat.lt_trichotomy kk kg with c | c | c
    · obtain ⟨q2, sz2, b2, h6, h7⟩ := h5 kg c g1
      exact absurd ((e1 g1 h6).mpr g3) h7
    · rw [h2, g2, c]
    · exact absurd ((e1 h1 h3).mp h4) (g4 kk c h1)
  · rcases Nat.eq_zero_or_pos kg with c | c
    · rw [h1, g2, c]; rfl
    · obtain ⟨q2, sz2, b2, h6, h7⟩ := h2 kg c g1
      exact absurd ((e1 g1 h6).mpr g3) h7
theorem a_told {a w p r t : Int32} (hp : jbc p = nI (cnt_lp ps 24 0 0)) (h : (r = -2 ∧ ¬ ∃ j, j < 5 ∧ w = nI j) ∨ (w = nI 0 ∧ ((r = -1 ∧ ¬ ∃ e, e < 24 ∧ a = nI e ∧ ps e = true) ∨ ∃ e, e < 24 ∧ a = nI e ∧ ps e = true ∧ r = nI (U e))) ∨ (w = nI 1 ∧ ((r = -1 ∧ ¬ ∃ e, e < 24 ∧ a = nI e ∧ ps e = true) ∨ ∃ e, e < 24 ∧ a = nI e ∧ ps e = true ∧ r = nI (V e))) ∨ (w = nI 2 ∧ r = jbc p) ∨ (w = nI 3 ∧ r = nI n) ∨ (w = nI 4 ∧ r = nI (am_lp U V ps (bt a) 24 0 0))) (g : (t = -2 ∧ ¬ ∃ j, j < 5 ∧ w = nI j) ∨ (w = nI 0 ∧ ((t = -1 ∧ ¬ ∃ e, e < 24 ∧ a = nI e ∧ ps e = true) ∨ ∃ e, e < 24 ∧ a = nI e ∧ ps e = true ∧ t = nI (U e))) ∨ (w = nI 1 ∧ ((t = -1 ∧ ¬ ∃ e, e < 24 ∧ a = nI e ∧ ps e = true) ∨ ∃ e, e < 24 ∧ a = nI e ∧ ps e = true ∧ t = nI (V e))) ∨ (w = nI 2 ∧ t = nI (cnt_lp ps 24 0 0)) ∨ (w = nI 3 ∧ t = nI n) ∨ (w = nI 4 ∧ t = nI (am_lp U V ps (bt a) 24 0 0))) : r = t := by
  have hne : ∀ i, i < 5 → ∀ j, j < 5 → i ≠ j → nI i ≠ nI j := by decide +kernel
  have hUV : ∀ (F : Nat → Nat), ((r = -1 ∧ ¬ ∃ e, e < 24 ∧ a = nI e ∧ ps e = true) ∨ ∃ e, e < 24 ∧ a = nI e ∧ ps e = true ∧ r = nI (F e)) → ((t = -1 ∧ ¬ ∃ e, e < 24 ∧ a = nI e ∧ ps e = true) ∨ ∃ e, e < 24 ∧ a = nI e ∧ ps e = true ∧ t = nI (F e)) → r = t := by
    intro F h3 g3
    rcases h3 with ⟨h3, h4⟩ | ⟨e, h3, h4, h5, h6⟩
    · rcases g3 with ⟨g3, g4⟩ | ⟨e2, g3, g4, g5, g6⟩
      · rw [h3, g3]
      · exact absurd ⟨e2, g3, g4, g5⟩ h4
    · rcases g3 with ⟨g3, g4⟩ | ⟨e2, g3, g4, g5, g6⟩
      · exact absurd ⟨e, h3, h4, h5⟩ g4
      · have : e = e2 := nI_u (h4.symm.trans g4) (by omega) (by omega)
        subst this
        rw [h6, g6]
  rcases h with ⟨h1, h2⟩ | ⟨h1, h2⟩ | ⟨h1, h2⟩ | ⟨h1, h2⟩ | ⟨h1, h2⟩ | ⟨h1, h2⟩ <;> rcases g with ⟨g1, g2⟩ | ⟨g1, g2⟩ | ⟨g1, g2⟩ | ⟨g1, g2⟩ | ⟨g1, g2⟩ | ⟨g1, g2⟩
  all_goals first
    | (rw [h1, g1]; done)
    | exact absurd ⟨_, by decide, g1⟩ h2
    | exact absurd ⟨_, by decide, h1⟩ g2
    | exact hUV _ h2 g2
    | (rw [h2, g2]; done)
    | (rw [h2, g2, hp]; done)
    | exact absurd (h1.symm.trans g1) (hne _ (by decide) _ (by decide) (by decide))
/-- what changes the graph: the same answer, the same new graph -/
theorem a_begin {σ2 σ3 : gm_S} {a p r t : Int32} (hp : jbc p = nI (cnt_lp ps 24 0 0)) (h : (r = -2 ∧ (¬ ∃ m, 1 ≤ m ∧ m ≤ 10 ∧ a = nI m) ∧ kInv σ2 n ps U V) ∨ ∃ m, 1 ≤ m ∧ m ≤ 10 ∧ a = nI m ∧ r = jbc p ∧ kInv σ2 m (fun _ => false) U V) (g : (t = -2 ∧ (¬ ∃ m, 1 ≤ m ∧ m ≤ 10 ∧ a = nI m) ∧ mG σ3 n ps U V) ∨ ∃ m, 1 ≤ m ∧ m ≤ 10 ∧ a = nI m ∧ t = nI (cnt_lp ps 24 0 0) ∧ mG σ3 m (fun _ => false) U V) (hm : mFR σ2 σ3) : r = t ∧ ∃ n2 ps2 U2 V2, kInv σ3 n2 ps2 U2 V2 ∧ mG σ3 n2 ps2 U2 V2 := by
  rcases h with ⟨h1, h2, h3⟩ | ⟨m, h1, h2, h3, h4, h5⟩
  · rcases g with ⟨g1, g2, g3⟩ | ⟨m2, g1, g2, g3, g4⟩
    · exact ⟨by rw [h1, g1], _, _, _, _, kInv_m hm h3, g3⟩
    · exact absurd ⟨m2, g1, g2, g3⟩ h2
  · rcases g with ⟨g1, g2, g3⟩ | ⟨m2, g1, g2, g3, g4, g5⟩
    · exact absurd ⟨m, h1, h2, h3⟩ g2
    · have : m = m2 := nI_u (h3.symm.trans g3) (by omega) (by omega)
      subst this
      exact ⟨by rw [h4, g4, hp], _, _, _, _, kInv_m hm h5, g5⟩
theorem a_join {σ2 σ3 : gm_S} {a b r t : Int32} (hn : n ≤ 10) (h : (r = -2 ∧ (¬ ∃ i j, i < n ∧ j < n ∧ i ≠ j ∧ a = nI i ∧ b = nI j) ∧ kInv σ2 n ps U V) ∨ ∃ i j, i < n ∧ j < n ∧ i ≠ j ∧ a = nI i ∧ b = nI j ∧ ((r = -3 ∧ (∀ e, e < 24 → ps e = true) ∧ kInv σ2 n ps U V) ∨ ∃ e, e < 24 ∧ r = nI e ∧ ps e = false ∧ (∀ d, d < e → ps d = true) ∧ kInv σ2 n (fun d => ps d || decide (d = e)) (va_up U e (min i j)) (va_up V e (max i j)))) (g : (t = -2 ∧ (¬ ∃ i j, i < n ∧ j < n ∧ i ≠ j ∧ a = nI i ∧ b = nI j) ∧ mG σ3 n ps U V) ∨ ∃ i j, i < n ∧ j < n ∧ i ≠ j ∧ a = nI i ∧ b = nI j ∧ ((t = -3 ∧ (∀ e, e < 24 → ps e = true) ∧ mG σ3 n ps U V) ∨ ∃ e, e < 24 ∧ t = nI e ∧ ps e = false ∧ (∀ d, d < e → ps d = true) ∧ mG σ3 n (fun d => ps d || decide (d = e)) (va_up U e (min i j)) (va_up V e (max i j)))) (hm : mFR σ2 σ3) : r = t ∧ ∃ n2 ps2 U2 V2, kInv σ3 n2 ps2 U2 V2 ∧ mG σ3 n2 ps2 U2 V2 := by
  rcases h with ⟨h1, h2, h3⟩ | ⟨i, j, h1, h2, h3, h4, h5, h6⟩
  · rcases g with ⟨g1, g2, g3⟩ | ⟨i2, j2, g1, g2, g3, g4, g5, g6⟩
    · exact ⟨by rw [h1, g1], _, _, _, _, kInv_m hm h3, g3⟩
    · exact absurd ⟨i2, j2, g1, g2, g3, g4, g5⟩ h2
  · rcases g with ⟨g1, g2, g3⟩ | ⟨i2, j2, g1, g2, g3, g4, g5, g6⟩
    · exact absurd ⟨i, j, h1, h2, h3, h4, h5⟩ g2
    · have e1 : i = i2 := nI_u (h4.symm.trans g4) (by omega) (by omega)
      have e2 : j = j2 := nI_u (h5.symm.trans g5) (by omega) (by omega)
      subst e1 e2
      rcases h6 with ⟨h6, h7, h8⟩ | ⟨e, h6, h7, h8, h9, h10⟩
      · rcases g6 with ⟨g6, g7, g8⟩ | ⟨e2, g6, g7, g8, g9, g10⟩
        · exact ⟨by rw [h6, g6], _, _, _, _, kInv_m hm h8, g8⟩
        · rw [h7 e2 g6] at g8; cases g8
      · rcases g6 with ⟨g6, g7, g8⟩ | ⟨e2, g6, g7, g8, g9, g10⟩
        · rw [g7 e h6] at h8; cases h8
        · have : e = e2 := by
            rcases Nat.lt_trichotomy e e2 with c | c | c
            · rw [g9 e c] at h8; cases h8
            · exact c
            · rw [h9 e2 c] at g8; cases g8
          subst this
          exact ⟨by rw [h7, g7], _, _, _, _, kInv_m hm h10, g10⟩
theorem a_cut {σ2 σ3 : gm_S} {a r t : Int32} (h : (r = -1 ∧ (¬ ∃ e, e < 24 ∧ a = nI e ∧ ps e = true) ∧ kInv σ2 n ps U V) ∨ ∃ e, e < 24 ∧ a = nI e ∧ ps e = true ∧ r = nI (U e * 10 + V e) ∧ kInv σ2 n (fun d => ps d && !decide (d = e)) U V) (g : (t = -1 ∧ (¬ ∃ e, e < 24 ∧ a = nI e ∧ ps e = true) ∧ mG σ3 n ps U V) ∨ ∃ e, e < 24 ∧ a = nI e ∧ ps e = true ∧ t = nI (U e * 10 + V e) ∧ mG σ3 n (fun d => ps d && !decide (d = e)) U V) (hm : mFR σ2 σ3) : r = t ∧ ∃ n2 ps2 U2 V2, kInv σ3 n2 ps2 U2 V2 ∧ mG σ3 n2 ps2 U2 V2 := by
  rcases h with ⟨h1, h2, h3⟩ | ⟨e, h1, h2, h3, h4, h5⟩
  · rcases g with ⟨g1, g2, g3⟩ | ⟨e2, g1, g2, g3, g4⟩
    · exact ⟨by rw [h1, g1], _, _, _, _, kInv_m hm h3, g3⟩
    · exact absurd ⟨e2, g1, g2, g3⟩ h2
  · rcases g with ⟨g1, g2, g3⟩ | ⟨e2, g1, g2, g3, g4, g5⟩
    · exact absurd ⟨e, h1, h2, h3⟩ g2
    · have : e = e2 := nI_u (h2.symm.trans g2) (by omega) (by omega)
      subst this
      exact ⟨by rw [h4, g4], _, _, _, _, kInv_m hm h5, g5⟩
end AN
