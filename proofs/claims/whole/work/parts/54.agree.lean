/-! THE SEARCH and THE COUNTS agree -/
theorem tr_cong {U V U2 V2 : Nat → Nat} {par eup : Nat → Option Nat} {F : Nat → Prop} (h : tr_ok U V par eup F) (hs : ∀ e, F e → U2 e = U e ∧ V2 e = V e) : tr_ok U2 V2 par eup F := ⟨fun v => by
  rcases h.1 v with q | ⟨u, e, c1, c2, c3, c4, c5, c6⟩
  · exact Or.inl q
  · exact Or.inr ⟨u, e, c1, c2, c3, c4, c5, by rw [(hs e c5).1, (hs e c5).2]; exact c6⟩, h.2⟩
theorem pqI_cong {U V U2 V2 : Nat → Nat} {k : Nat} {q : pq} (h : pqI U V k q) (hs : ∀ e, e < 24 → U2 e = U e ∧ V2 e = V e) : pqI U2 V2 k q := ⟨h.1, fun e he => by
  obtain ⟨a, b, c⟩ := h.2.1 e he
  exact ⟨a, by rw [(hs e a).1]; exact b, by rw [(hs e a).2]; exact c⟩, fun i hi => tr_cong (h.2.2 i hi) (fun e he => hs e (h.2.1 e (by rw [show q.1 e = some i from he]; exact fun z => by cases z)).1)⟩
/-- the rest of a way, when the edge that it leaves for is gone -/
theorem gp_pth_rm {U V : Nat → Nat} {k : Nat} {p : Nat → Option Nat} {z i : Nat} (h : gp_ok U V k p) (hz : p z = some i) : ∀ (r : List Nat) (G : Nat → Prop), z ∉ r → (∀ y ∈ r.tail, gh_in U V (fun e => gp_F p i e ∧ e ≠ z) y) → gp_pth U V p G r → gp_pth U V (va_up p z none) G r
  | [], G, _, _, _ => trivial
  | x :: r, G, hn, h2, hp => by
    obtain ⟨g1, g2, g3⟩ := hp
    refine ⟨g1, g2, fun hr => ?_⟩
    obtain ⟨j, hj, hp2⟩ := g3 hr
    have hxz : x ≠ z := fun e => hn (e ▸ List.mem_cons_self)
    have hnr : z ∉ r := fun hm => hn (List.mem_cons_of_mem _ hm)
    have hjk : j < k := h.1 x j hj
    refine ⟨j, by rw [va_up_ne _ _ hxz]; exact hj, ?_⟩
    have ih := gp_pth_rm h hz r (fun e => gp_F p j e ∧ e ≠ x) hnr (fun y hy => h2 y (List.mem_of_mem_tail hy)) hp2
    cases r with
    | nil => exact trivial
    | cons y r =>
      obtain ⟨q1, q2, q3⟩ := ih
      rw [gp_F_rm]
      by_cases hji : j = i
      · subst hji
        refine ⟨fun hc => q1 (gq_mono (fun e he => ⟨he.1.1, he.2⟩) hc), fun v hv => ?_, q3⟩
        exact gh_uniq (h.2 j hjk) hj (h2 v (List.mem_cons_of_mem _ hv)) (q2 v hv)
      · have hsame : (fun e => (gp_F p j e ∧ e ≠ z) ∧ e ≠ x) = (fun e => gp_F p j e ∧ e ≠ x) := gh_eq fun e => ⟨fun q => ⟨q.1.1, q.2⟩, fun q => ⟨⟨q.1, fun ez => by
          subst ez
          have : some j = some i := (show p e = some j from q.1).symm.trans hz
          exact hji (Option.some.inj this)⟩, q.2⟩⟩
        rw [hsame]
        exact ⟨q1, q2, q3⟩
theorem gp_rm_ok {U V : Nat → Nat} {k : Nat} {p : Nat → Option Nat} (h : gp_ok U V k p) (z : Nat) : gp_ok U V k (va_up p z none) := ⟨fun e i he => by
  by_cases c : e = z
  · subst c; rw [va_up_self] at he; cases he
  · rw [va_up_ne _ _ c] at he; exact h.1 e i he, fun i hi => by
  rw [gp_F_rm]
  exact gf_sub (h.2 i hi) (fun e he => he.1)⟩
/-- an edge that is reached: without it there is room -/
theorem bf_drop {U V : Nat → Nat} {k w : Nat} {p : Nat → Option Nat} {fx : Nat → Prop} {L : List Nat} {pr : Nat → Nat} (hok : gp_ok U V k p) (hw : p w = none) (h : bf_ok U V p fx w (w :: L) pr) {z : Nat} (hz : z ∈ L) : gp_fit U V k (fun e => (p e ≠ none ∧ e ≠ z) ∨ e = w) := by
  obtain ⟨j, hj⟩ := List.mem_iff_getElem?.mp hz
  have hj2 : (w :: L)[j + 1]? = some z := by rw [List.getElem?_cons_succ]; exact hj
  obtain ⟨i, f, c1, c2, c3, c4, c5, c6⟩ := h.2.2 j z hj2
  obtain ⟨r, d1, d2, d3, d4, d5⟩ := bf_path h i (pr z) c2
  have hpth := d5 _ c5 c6
  have hzn : z ∉ pr z :: r := fun hm => by
    obtain ⟨i2, e1, e2⟩ := d1 z hm
    have := nd_inj _ h.2.1 _ _ _ e2 hj2
    omega
  have hzw : z ≠ w := fun e => by rw [e, hw] at c3; cases c3
  have hp2 := gp_pth_rm hok c3 (pr z :: r) _ hzn (fun y hy => hpth.2.1 y hy) hpth
  have hok2 := gp_rm_ok hok z
  have hp3 : gp_pth U V (va_up p z none) (gp_F (va_up p z none) f) (pr z :: r) := by rw [gp_F_rm]; exact hp2
  obtain ⟨b1, b2, b3⟩ := shp_ok r (pr z) (va_up p z none) f hok2 (hok.1 z f c3) (by rw [va_up_ne _ _ (Ne.symm hzw)]; exact hw) d2 d3 hp3
  refine ⟨_, b1, fun e => ?_⟩
  rw [b2 e]
  by_cases c : e = z
  · subst c; rw [va_up_self]; simp [hzw]
  · rw [va_up_ne _ _ c]; simp [c]
section AG
variable {U V : Nat → Nat} {n k : Nat} {q : pq} {S ps : Nat → Bool}
theorem sP {p : Nat → Option Nat} {e i : Nat} (h : p e = some i) : p e ≠ none := by rw [h]; exact fun z => by cases z
theorem fx0 {p : Nat → Option Nat} {x : Nat} : ¬ fxP (fun _ => false) p x := fun z => by have := z.1; cases this
/-- no room: the counts say so -/
theorem no_nw {w M : Nat} {T : Nat → Prop} {p : Nat → Option Nat} {R : Nat → Prop} (hok : ∀ e i, p e = some i → i < k) (hE : ∀ e, p e ≠ none → e < M ∧ U e < n ∧ V e < n) (hw : p w = none) (hwM : w < M) (hU : U w < n) (hV : V w < n) (hR : ∀ x, R x → p x ≠ none) (hcl : ∀ z, R z ∨ z = w → ∀ f, f < k → gh_in U V (fun x => gp_F p f x ∧ R x) z) (hT : ∀ e, R e ∨ e = w → T e) : ¬ nw n U V k T M := by
  refine cl_nw (p := p) (R := R) (w := w) (fun e he => ?_) (fun z => hR w z hw) hwM hU hV hcl hT
  obtain ⟨a, b, c⟩ := hE e (hR e he)
  refine ⟨a, b, c, ?_⟩
  cases hq : p e with
  | none => exact absurd hq (hR e he)
  | some i => exact ⟨i, hok e i hq, rfl⟩
theorem fnd_cl {w : Nat} {r : Option (Option Nat × Nat) × sq} (hw : q.1 w = none) (h : fQ U V k q.1 (fun _ => false) w r) (hr : r.1 = none) : (∀ x, r.2.1 x = true → q.1 x ≠ none) ∧ ∀ z, r.2.1 z = true ∨ z = w → ∀ f, f < k → gh_in U V (fun x => gp_F q.1 f x ∧ r.2.1 x = true) z := by
  obtain ⟨h1, h2⟩ := fQ_none hw h hr
  exact ⟨fun x hx => (h1 x hx).1, fun z hz f hf => gq_mono (fun x hx => ⟨hx.1, hx.2.resolve_right fx0⟩) (h2 z hz f hf)⟩
/-- ONE EDGE MORE: room is found just when the counts allow it -/
theorem fnd_ft (hn : n ≤ 10) (hI : pqI U V k q) (hps : ∀ e, q.1 e ≠ none → ps e = true) (hE : ∀ e, q.1 e ≠ none → U e < n ∧ V e < n) (hS : ∀ e, S e = true ↔ q.1 e ≠ none) {w : Nat} (hw : q.1 w = none) (h24 : w < 24) (hU : U w < n) (hV : V w < n) (fol : Nat → Option Nat) : (fnd k U V ps q (fun _ => false) (U w) (V w) fol).1 ≠ none ↔ ftb n U V (fun i => S i || decide (i = w)) k none = true := by
  have hf := fnd_ok (fx := fun _ => false) (U0 := U) (V0 := V) hI hps hw (by omega) (by omega) (fun _ _ => ⟨rfl, rfl⟩) fol
  rw [ftb_iff, FT_nw hn]
  have hset : (fun e => (S e || decide (e = w)) = true) = (fun e => q.1 e ≠ none ∨ e = w) := gh_eq fun e => by simp [hS e]
  rw [hset]
  constructor
  · intro h
    refine fit_nw (fun e he => ?_) (fQ_fit hI hw hf h)
    rcases he with z | z
    · exact ⟨(hI.2.1 e z).1, hE e z⟩
    · rw [z]; exact ⟨h24, hU, hV⟩
  · intro h hr
    obtain ⟨h1, h2⟩ := fnd_cl hw hf hr
    exact no_nw hI.1 (fun e he => ⟨(hI.2.1 e he).1, hE e he⟩) hw h24 hU hV h1 h2 (fun e he => he.elim (fun z => Or.inl (h1 e z)) Or.inr) h
/-- TIGHT -/
theorem fnd_tgt (hn : n ≤ 10) (hI : pqI U V k q) (hps : ∀ e, q.1 e ≠ none → ps e = true) (hE : ∀ e, q.1 e ≠ none → U e < n ∧ V e < n) (hS : ∀ e, S e = true ↔ q.1 e ≠ none) {a b : Nat} (ha : a < n) (hb : b < n) (fol : Nat → Option Nat) : (fnd k U V ps q (fun _ => false) a b fol).1 = none ↔ tgt n U V S k a b = true := by
  have hs : ∀ e, e < 24 → va_up U 24 a e = U e ∧ va_up V 24 b e = V e := fun e he => ⟨va_up_ne _ _ (by omega), va_up_ne _ _ (by omega)⟩
  have hI2 : pqI (va_up U 24 a) (va_up V 24 b) k q := pqI_cong hI hs
  have hw : q.1 24 = none := by
    cases h : q.1 24 with
    | none => rfl
    | some i => have := (hI.2.1 24 (sP h)).1; omega
  have hE2 : ∀ e, q.1 e ≠ none → e < 25 ∧ va_up U 24 a e < n ∧ va_up V 24 b e < n := fun e he => by
    have := (hI.2.1 e he).1
    rw [(hs e this).1, (hs e this).2]
    exact ⟨by omega, hE e he⟩
  have hf := fnd_ok (fx := fun _ => false) (U0 := U) (V0 := V) hI2 hps hw (by rw [va_up_self]; omega) (by rw [va_up_self]; omega) (fun e he => ⟨(hs e he).1.symm, (hs e he).2.symm⟩) fol
  rw [va_up_self, va_up_self] at hf
  have hset : (fun e => (S e = true ∧ e < 24) ∨ e = 24) = (fun e => q.1 e ≠ none ∨ e = 24) := gh_eq fun e => by
    rw [hS e]
    constructor
    · rintro (z | z)
      · exact Or.inl z.1
      · exact Or.inr z
    · rintro (z | z)
      · exact Or.inl ⟨z, (hI.2.1 e z).1⟩
      · exact Or.inr z
  have hF : FT n U V S k (some (a, b)) ↔ nw n (va_up U 24 a) (va_up V 24 b) k (fun e => q.1 e ≠ none ∨ e = 24) 25 := by rw [FT_nw2 hn, hset]
  have h1 : (fnd k U V ps q (fun _ => false) a b fol).1 = none → ¬ FT n U V S k (some (a, b)) := by
    intro hr
    rw [hF]
    obtain ⟨h1, h2⟩ := fnd_cl hw hf hr
    exact no_nw hI.1 hE2 hw (by omega) (by rw [va_up_self]; exact ha) (by rw [va_up_self]; exact hb) h1 h2 (fun e he => he.elim (fun z => Or.inl (h1 e z)) Or.inr)
  have h2 : (fnd k U V ps q (fun _ => false) a b fol).1 ≠ none → FT n U V S k (some (a, b)) ∧ a ≠ b := by
    intro hr
    have hfit := fQ_fit hI2 hw hf hr
    refine ⟨hF.mpr (fit_nw (fun e he => ?_) hfit), fun hab => ?_⟩
    · rcases he with z | z
      · exact hE2 e z
      · rw [z, va_up_self, va_up_self]; exact ⟨by omega, ha, hb⟩
    · obtain ⟨p2, hok, hd⟩ := hfit
      have := (hd 24).mp (Or.inr rfl)
      cases hq : p2 24 with
      | none => exact this hq
      | some i =>
        refine hok.2 i (hok.1 24 i hq) 24 hq ?_
        rw [va_up_self, va_up_self, hab]
        exact gq_rf
  unfold tgt
  rw [Bool.or_eq_true, decide_eq_true_eq, Bool.not_eq_true', ← Bool.not_eq_true, ftb_iff]
  constructor
  · exact fun h => Or.inr (h1 h)
  · intro h
    by_cases hr : (fnd k U V ps q (fun _ => false) a b fol).1 = none
    · exact hr
    · obtain ⟨g1, g2⟩ := h2 hr
      rcases h with z | z
      · exact absurd z g2
      · exact absurd g1 z
/-- WHY: reached, and the counts without the edge -/
theorem fnd_why (hn : n ≤ 10) (hI : pqI U V k q) (hps : ∀ e, q.1 e ≠ none → ps e = true) (hE : ∀ e, q.1 e ≠ none → U e < n ∧ V e < n) (hS : ∀ e, S e = true ↔ q.1 e ≠ none) {w : Nat} (hw : q.1 w = none) (h24 : w < 24) (hU : U w < n) (hV : V w < n) (fol : Nat → Option Nat) (hr : (fnd k U V ps q (fun _ => false) (U w) (V w) fol).1 = none) (f : Nat) : (fnd k U V ps q (fun _ => false) (U w) (V w) fol).2.1 f = true ↔ S f = true ∧ ftb n U V (fun i => (S i && !decide (i = f)) || decide (i = w)) k none = true := by
  have hf := fnd_ok (fx := fun _ => false) (U0 := U) (V0 := V) hI hps hw (by omega) (by omega) (fun _ _ => ⟨rfl, rfl⟩) fol
  rw [ftb_iff, FT_nw hn]
  have hset : (fun e => ((S e && !decide (e = f)) || decide (e = w)) = true) = (fun e => (q.1 e ≠ none ∧ e ≠ f) ∨ e = w) := gh_eq fun e => by simp [hS e]
  rw [hset]
  obtain ⟨h1, h2⟩ := fnd_cl hw hf hr
  constructor
  · intro hx
    refine ⟨(hS f).mpr (h1 f hx), ?_⟩
    obtain ⟨⟨⟨pr, c1, _⟩, c2⟩, _⟩ := hf
    refine fit_nw (fun e he => ?_) (bf_drop (pqI_ok hI) hw c1 ((c2 f).mp hx))
    rcases he with z | z
    · exact ⟨(hI.2.1 e z.1).1, hE e z.1⟩
    · rw [z]; exact ⟨h24, hU, hV⟩
  · rintro ⟨hSf, hnw⟩
    cases hb : (fnd k U V ps q (fun _ => false) (U w) (V w) fol).2.1 f with
    | true => rfl
    | false =>
      exfalso
      have hne : ∀ x, (fnd k U V ps q (fun _ => false) (U w) (V w) fol).2.1 x = true → x ≠ f := fun x hx e => by rw [e, hb] at hx; cases hx
      have hfw : f ≠ w := fun e => (hS f).mp hSf (by rw [e]; exact hw)
      refine no_nw (p := va_up q.1 f none) (R := fun x => (fnd k U V ps q (fun _ => false) (U w) (V w) fol).2.1 x = true) (w := w) (fun e i he => ?_) (fun e he => ?_) ?_ h24 hU hV (fun x hx => ?_) (fun z hz g hg => ?_) (fun e he => ?_) hnw
      · by_cases c : e = f
        · rw [c, va_up_self] at he; cases he
        · rw [va_up_ne _ _ c] at he; exact hI.1 e i he
      · by_cases c : e = f
        · rw [c, va_up_self] at he; exact absurd rfl he
        · rw [va_up_ne _ _ c] at he; exact ⟨(hI.2.1 e he).1, hE e he⟩
      · rw [va_up_ne _ _ (Ne.symm hfw)]; exact hw
      · rw [va_up_ne _ _ (hne x hx)]; exact h1 x hx
      · rw [gp_F_rm]
        exact gq_mono (fun x hx => ⟨⟨hx.1, hne x hx.2⟩, hx.2⟩) (h2 z hz g hg)
      · rcases he with z | z
        · exact Or.inl ⟨h1 e z, hne e z⟩
        · exact Or.inr z
/-- PACK is greedy -/
theorem pk_ok (hn : n ≤ 10) (hP : ∀ e, ps e = true → e < 24 ∧ U e < n ∧ V e < n) : ∀ m e z S, e + m = 24 → pqI U V k z.1 → (∀ x, S x = true ↔ z.1.1 x ≠ none) → (∀ x, S x = true → x < e ∧ ps x = true) → z.2.1 = gc_n (fun x => S x = true) 24 → ∀ r, pk_lp k U V ps m e z = r → pqI U V k r.1 ∧ (∀ x, hd_lp n U V ps k m e S x = true ↔ r.1.1 x ≠ none) ∧ r.2.1 = gc_n (fun x => hd_lp n U V ps k m e S x = true) 24 ∧ ∀ x, hd_lp n U V ps k m e S x = true → ps x = true
  | 0, e, z, S, he, hI, hS, hps, hc, r, hr => by
    subst hr
    exact ⟨hI, hS, hc, fun x hx => (hps x hx).2⟩
  | m + 1, e, z, S, he, hI, hS, hps, hc, r, hr => by
    rw [pk_lp] at hr
    rw [hd_lp]
    have hlt : ∀ x, S x = true → x < e + 1 ∧ ps x = true := fun x hx => ⟨by have := (hps x hx).1; omega, (hps x hx).2⟩
    by_cases hp : ps e = true
    · rw [if_pos hp] at hr
      have hze : z.1.1 e = none := by
        cases h : z.1.1 e with
        | none => rfl
        | some i => have := (hps e ((hS e).mpr (sP h))).1; omega
      obtain ⟨p1, p2, p3⟩ := hP e hp
      have hps2 : ∀ x, z.1.1 x ≠ none → ps x = true := fun x hx => (hps x ((hS x).mpr hx)).2
      have hE : ∀ x, z.1.1 x ≠ none → U x < n ∧ V x < n := fun x hx => (hP x (hps x ((hS x).mpr hx)).2).2
      have hft := fnd_ft hn hI hps2 hE hS hze p1 p2 p3 z.2.2
      have hf := fnd_ok (fx := fun _ => false) (U0 := U) (V0 := V) hI hps2 hze (by omega) (by omega) (fun _ _ => ⟨rfl, rfl⟩) z.2.2
      generalize fnd k U V ps z.1 (fun _ => false) (U e) (V e) z.2.2 = o at hr hft hf
      obtain ⟨o, s⟩ := o
      cases o with
      | none =>
        have hb : ftb n U V (fun i => S i || decide (i = e)) k none ≠ true := fun c => hft.mpr c rfl
        rw [if_neg (fun c => hb c.2)]
        exact pk_ok hn hP m (e + 1) (z.1, z.2.1, s.2.2) S (by omega) hI hS hlt hc r hr
      | some x =>
        obtain ⟨lm, t⟩ := x
        have hb := hft.mp (fun c => by cases c)
        rw [if_pos ⟨hp, hb⟩]
        obtain ⟨a1, a2, a3⟩ := tkin_ok hI hps2 hze p1 (by omega) (by omega) hf rfl
        refine pk_ok hn hP m (e + 1) _ (fun i => S i || decide (i = e)) (by omega) a1 (fun x => ?_) (fun x hx => ?_) ?_ r hr
        · show _ ↔ (tkin U V ps s.2.2 z.1 lm t e).1 x ≠ none
          rw [a2 x, Bool.or_eq_true, decide_eq_true_eq, hS x]
        · rw [Bool.or_eq_true, decide_eq_true_eq] at hx
          rcases hx with c | c
          · exact hlt x c
          · rw [c]; exact ⟨by omega, hp⟩
        · show z.2.1 + 1 = _
          rw [hc]
          refine (gc_out (w := e) (by simp) (fun c => (hS e).mp c hze) p1 (fun v _ hv => ?_)).symm
          simp [hv]
    · rw [if_neg hp] at hr
      rw [if_neg (fun c => hp c.1)]
      exact pk_ok hn hP m (e + 1) z S (by omega) hI hS hlt hc r hr
end AG
