/-! COUNTS and PACKINGS: a set fits into k forests just when no part of the vertices holds too many of its edges -/
theorem gc_compl {P : Nat → Prop} : ∀ n, gc_n P n + gc_n (fun v => ¬ P v) n = n
  | 0 => rfl
  | n + 1 => by
    have ih := gc_compl (P := P) n
    by_cases h : P n
    · rw [gc_s1 h, gc_s0 (P := fun v => ¬ P v) (fun z => z h)]; omega
    · rw [gc_s0 h, gc_s1 (P := fun v => ¬ P v) h]; omega
theorem gc_ext {P : Nat → Prop} {n : Nat} (h : ∀ v, n ≤ v → ¬ P v) : ∀ m, gc_n P (n + m) = gc_n P n
  | 0 => rfl
  | m + 1 => by rw [show n + (m + 1) = (n + m) + 1 by omega, gc_s0 (h (n + m) (by omega)), gc_ext h m]
theorem cnt_gc (P : Nat → Bool) : ∀ n e c, cnt_lp P n e c + gc_n (fun i => P i = true) e = c + gc_n (fun i => P i = true) (e + n)
  | 0, e, c => rfl
  | n + 1, e, c => by
    rw [cnt_lp]
    by_cases h : P e = true
    · rw [if_pos h]
      have ih := cnt_gc P n (e + 1) (c + 1)
      rw [gc_s1 (P := fun i => P i = true) h, show e + 1 + n = e + (n + 1) by omega] at ih
      omega
    · rw [if_neg h]
      have ih := cnt_gc P n (e + 1) c
      rw [gc_s0 (P := fun i => P i = true) h, show e + 1 + n = e + (n + 1) by omega] at ih
      omega
theorem cnt_gc0 (P : Nat → Bool) (n c : Nat) : cnt_lp P n 0 c = c + gc_n (fun i => P i = true) n := by
  have := cnt_gc P n 0 c
  rw [Nat.zero_add] at this
  have h0 : gc_n (fun i => P i = true) 0 = 0 := rfl
  omega
theorem bits_of (A : Nat → Prop) : ∀ n, ∃ p, p < 2 ^ n ∧ ∀ i, i < n → (p.testBit i = true ↔ A i)
  | 0 => ⟨0, by simp, fun i hi => absurd hi (Nat.not_lt_zero i)⟩
  | n + 1 => by
    obtain ⟨p, h1, h2⟩ := bits_of A n
    have hpn : p.testBit n = false := Nat.testBit_lt_two_pow h1
    have h2n : 2 ^ (n + 1) = 2 ^ n + 2 ^ n := by rw [Nat.pow_succ]; omega
    by_cases hA : A n
    · refine ⟨2 ^ n + p, by omega, fun i hi => ?_⟩
      by_cases c : i = n
      · subst c; rw [Nat.testBit_two_pow_add_eq, hpn]; simp [hA]
      · rw [Nat.testBit_two_pow_add_gt (by omega)]; exact h2 i (by omega)
    · refine ⟨p, by omega, fun i hi => ?_⟩
      by_cases c : i = n
      · subst c; rw [hpn]; simp [hA]
      · exact h2 i (by omega)
def nw (n : Nat) (U V : Nat → Nat) (k : Nat) (S : Nat → Prop) (M : Nat) : Prop := ∀ A : Nat → Prop, (∃ v, A v) → (∀ v, A v → v < n) → gc_n (fun e => S e ∧ A (U e) ∧ A (V e)) M ≤ k * (gc_n A n - 1)
theorem bcn_gc {n p : Nat} (hn : n ≤ 10) (hp : p < 2 ^ n) : bcn p = gc_n (fun i => p.testBit i = true) n := by
  rw [bcn, cnt_gc0, Nat.zero_add, show 10 = n + (10 - n) by omega]
  refine gc_ext (fun v hv => ?_) _
  rw [Nat.testBit_lt_two_pow (Nat.lt_of_lt_of_le hp (Nat.pow_le_pow_right (by decide) hv))]
  exact Bool.false_ne_true
theorem wcn_gc {U V : Nat → Nat} {S : Nat → Bool} {p : Nat} {ab : Option (Nat × Nat)} : wcn U V S p ab = m0 p ab + gc_n (fun e => S e = true ∧ p.testBit (U e) = true ∧ p.testBit (V e) = true) 24 := by
  rw [wcn, cnt_gc0]
  congr 1
  exact gc_congr (fun v _ => by simp [and_assoc])
/-- over the sets that numbers below 2^n stand for -/
theorem nw_p {n : Nat} {U V : Nat → Nat} {k M : Nat} {S : Nat → Prop} (hn : n ≤ 10) : nw n U V k S M ↔ ∀ p, 1 ≤ p → p < 2 ^ n → gc_n (fun e => S e ∧ p.testBit (U e) = true ∧ p.testBit (V e) = true) M ≤ k * (bcn p - 1) := by
  have hout : ∀ {p i : Nat}, p < 2 ^ n → p.testBit i = true → i < n := fun {p i} hp hi => by
    rcases Nat.lt_or_ge i n with z | z
    · exact z
    · rw [Nat.testBit_lt_two_pow (Nat.lt_of_lt_of_le hp (Nat.pow_le_pow_right (by decide) z))] at hi
      cases hi
  constructor
  · intro h p h1 h2
    rw [bcn_gc hn h2]
    refine h (fun i => p.testBit i = true) ?_ (fun v hv => hout h2 hv)
    obtain ⟨i, hi⟩ := Nat.exists_testBit_of_ne_zero (x := p) (by omega)
    exact ⟨i, hi⟩
  · intro h A hA hAn
    obtain ⟨p, h1, h2⟩ := bits_of A n
    have hiff : ∀ i, p.testBit i = true ↔ A i := fun i => by
      constructor
      · exact fun hi => (h2 i (hout h1 hi)).mp hi
      · exact fun hi => (h2 i (hAn i hi)).mpr hi
    obtain ⟨v, hv⟩ := hA
    have hp : 1 ≤ p := by
      rcases Nat.eq_zero_or_pos p with z | z
      · have := (hiff v).mpr hv
        rw [z] at this
        simp at this
      · exact z
    have := h p hp h1
    rw [bcn_gc hn h1] at this
    rw [gc_congr (P := A) (Q := fun i => p.testBit i = true) (fun i _ => (hiff i).symm)]
    refine Nat.le_trans (Nat.le_of_eq (gc_congr fun e _ => ?_)) this
    rw [hiff, hiff]
theorem FT_nw {n : Nat} {U V : Nat → Nat} {k : Nat} {S : Nat → Bool} (hn : n ≤ 10) : FT n U V S k none ↔ nw n U V k (fun e => S e = true) 24 := by
  rw [nw_p hn]
  refine forall_congr' fun p => forall_congr' fun _ => forall_congr' fun _ => ?_
  rw [wcn_gc]
  show 0 + _ ≤ _ ↔ _
  rw [Nat.zero_add]
theorem FT_nw2 {n : Nat} {U V : Nat → Nat} {k a b : Nat} {S : Nat → Bool} (hn : n ≤ 10) : FT n U V S k (some (a, b)) ↔ nw n (va_up U 24 a) (va_up V 24 b) k (fun e => (S e = true ∧ e < 24) ∨ e = 24) 25 := by
  rw [nw_p hn]
  refine forall_congr' fun p => forall_congr' fun _ => forall_congr' fun _ => ?_
  rw [wcn_gc]
  have h24 : gc_n (fun e => ((S e = true ∧ e < 24) ∨ e = 24) ∧ p.testBit (va_up U 24 a e) = true ∧ p.testBit (va_up V 24 b e) = true) 24 = gc_n (fun e => S e = true ∧ p.testBit (U e) = true ∧ p.testBit (V e) = true) 24 := gc_congr (fun e he => by
    rw [va_up_ne _ _ (by omega), va_up_ne _ _ (by omega)]
    constructor
    · rintro ⟨h1 | h1, h2⟩
      · exact ⟨h1.1, h2⟩
      · omega
    · rintro ⟨h1, h2⟩
      exact ⟨Or.inl ⟨h1, he⟩, h2⟩)
  have hm : m0 p (some (a, b)) + gc_n (fun e => S e = true ∧ p.testBit (U e) = true ∧ p.testBit (V e) = true) 24 = gc_n (fun e => ((S e = true ∧ e < 24) ∨ e = 24) ∧ p.testBit (va_up U 24 a e) = true ∧ p.testBit (va_up V 24 b e) = true) 25 := by
    rw [← h24]
    by_cases c : p.testBit a = true ∧ p.testBit b = true
    · rw [gc_s1 (n := 24) ⟨Or.inr rfl, by rw [va_up_self]; exact c.1, by rw [va_up_self]; exact c.2⟩, show m0 p (some (a, b)) = 1 from if_pos c]; omega
    · rw [gc_s0 (n := 24) (fun z => c (by rw [va_up_self, va_up_self] at z; exact z.2)), show m0 p (some (a, b)) = 0 from if_neg c]; omega
  rw [hm]
theorem gs_le {F : Nat → Nat} {c : Nat} : ∀ {k}, (∀ f, f < k → F f ≤ c) → gs F k ≤ k * c
  | 0, _ => by simp [gs]
  | k + 1, h => by
    have h1 := gs_le (F := F) (c := c) (k := k) (fun f hf => h f (by omega))
    have h2 := h k (by omega)
    rw [gs, Nat.add_mul]
    omega
theorem gs_ge {F : Nat → Nat} {c : Nat} : ∀ {k}, (∀ f, f < k → c ≤ F f) → k * c ≤ gs F k
  | 0, _ => by simp [gs]
  | k + 1, h => by
    have h1 := gs_ge (F := F) (c := c) (k := k) (fun f hf => h f (by omega))
    have h2 := h k (by omega)
    rw [gs, Nat.add_mul]
    omega
section NW
variable {U V : Nat → Nat} {n M k : Nat}
/-- all but those of A, and the least of A -/
theorem gc_roots {A : Nat → Prop} {a0 : Nat} (h0 : A a0) (hn : a0 < n) : gc_n (fun v => ¬ A v ∨ v = a0) n + gc_n A n = n + 1 := by
  have h1 := gc_compl (P := A) n
  have h2 := gc_out (P := fun v => ¬ A v ∨ v = a0) (Q := fun v => ¬ A v) (w := a0) (Or.inr rfl) (fun z => z h0) hn (fun v _ hv => ⟨fun z => z.elim id (fun c => absurd c hv), Or.inl⟩)
  omega
theorem for_le {A J : Nat → Prop} (hJ : gf_for U V J) (hM : ∀ e, J e → e < M) (hA : ∀ e, J e → A (U e) ∧ A (V e)) (hAn : ∀ v, A v → v < n) (hne : ∃ v, A v) : gc_n J M ≤ gc_n A n - 1 := by
  obtain ⟨v, hv⟩ := hne
  obtain ⟨a0, _, a1, a2⟩ := gc_least hv
  have h1 := gf_ceq hJ (fun e he => hAn _ (hA e he).1) (fun e he => hAn _ (hA e he).2) M
  rw [gf_all hM] at h1
  have h2 := gc_roots a1 (hAn a0 a1)
  have key : ∀ x y, gq_con U V J x y → x = y ∨ (A x ∧ A y) := fun x y hc => hc (fun x y => x = y ∨ (A x ∧ A y)) ⟨fun _ => Or.inl rfl, fun x y h => h.elim (fun z => Or.inl z.symm) (fun z => Or.inr ⟨z.2, z.1⟩), fun x y z h g => by
    rcases h with h | h
    · subst h; exact g
    · rcases g with g | g
      · subst g; exact Or.inr h
      · exact Or.inr ⟨h.1, g.2⟩⟩ (fun e he => Or.inr (hA e he))
  have h3 : gc_n (fun v => ¬ A v ∨ v = a0) n ≤ gr_c U V J n := gc_mono (fun v hv hP u hu hc => by
    rcases key u v hc with z | z
    · omega
    · rcases hP with q | q
      · exact q z.2
      · subst q; exact a2 u hu z.1)
  omega
theorem fit_nw {S : Nat → Prop} (hS : ∀ e, S e → e < M ∧ U e < n ∧ V e < n) (h : gp_fit U V k S) : nw n U V k S M := by
  obtain ⟨q, hok, hd⟩ := h
  intro A hA hAn
  have s1 := gs_parts (P := fun e => S e ∧ A (U e) ∧ A (V e)) (q := q) (k := k) (fun e he => by
    have := (hd e).mp he.1
    cases hq : q e with
    | none => exact absurd hq this
    | some i => exact ⟨i, hok.1 e i hq, rfl⟩) M
  rw [← s1]
  refine gs_le (fun f hf => ?_)
  exact for_le (U := U) (V := V) (A := A) (gf_sub (hok.2 f hf) (fun e he => he.1)) (fun e he => (hS e he.2.1).1) (fun e he => he.2.2) hAn hA
/-- closed: too many edges in one part -/
theorem cl_nw {p : Nat → Option Nat} {R S : Nat → Prop} {w : Nat} (hR : ∀ e, R e → e < M ∧ U e < n ∧ V e < n ∧ ∃ i, i < k ∧ p e = some i) (hw : ¬ R w) (hwM : w < M) (hwU : U w < n) (hwV : V w < n) (hcl : ∀ z, R z ∨ z = w → ∀ f, f < k → gh_in U V (fun x => gp_F p f x ∧ R x) z) (hS : ∀ e, R e ∨ e = w → S e) : ¬ nw n U V k S M := by
  intro hnw
  have hA0 : gq_con U V (fun x => R x ∨ x = w) (U w) (U w) := gq_rf
  obtain ⟨A, hA⟩ : ∃ A : Nat → Prop, ∀ v, A v ↔ v < n ∧ gq_con U V (fun x => R x ∨ x = w) (U w) v := ⟨_, fun _ => Iff.rfl⟩
  have hAw : A (U w) := (hA _).mpr ⟨hwU, hA0⟩
  have hAw2 : A (V w) := (hA _).mpr ⟨hwV, gq_ed (X := fun x => R x ∨ x = w) (Or.inr rfl)⟩
  have hAn : ∀ v, A v → v < n := fun v hv => ((hA v).mp hv).1
  have hAR : ∀ e, R e → (A (U e) ↔ A (V e)) := fun e he => by
    have hed : gq_con U V (fun x => R x ∨ x = w) (U e) (V e) := gq_ed (X := fun x => R x ∨ x = w) (Or.inl he)
    constructor
    · exact fun z => (hA _).mpr ⟨(hR e he).2.2.1, gq_tr ((hA _).mp z).2 hed⟩
    · exact fun z => (hA _).mpr ⟨(hR e he).2.1, gq_tr ((hA _).mp z).2 (gq_sy hed)⟩
  have hfor : ∀ f, f < k → gc_n A n - 1 ≤ gc_n (fun e => p e = some f ∧ (R e ∧ A (U e) ∧ A (V e))) M := by
    intro f hf
    have hcon : ∀ x y, A x → A y → gq_con U V (fun e => p e = some f ∧ (R e ∧ A (U e) ∧ A (V e))) x y := by
      intro x y hx hy
      have cx := gq_in (fun e he => hcl e he f hf) ((hA x).mp hx).2
      have cy := gq_in (fun e he => hcl e he f hf) ((hA y).mp hy).2
      have cxy := gq_tr (gq_sy cx) cy
      exact (cxy (fun x y => (A x ↔ A y) ∧ (A x → gq_con U V (fun e => p e = some f ∧ (R e ∧ A (U e) ∧ A (V e))) x y)) ⟨fun _ => ⟨Iff.rfl, fun _ => gq_rf⟩, fun a b h => ⟨h.1.symm, fun hb => gq_sy (h.2 (h.1.mpr hb))⟩, fun a b c h g => ⟨h.1.trans g.1, fun ha => gq_tr (h.2 ha) (g.2 (h.1.mp ha))⟩⟩ (fun e he => ⟨hAR e he.2, fun hu => gq_ed (X := fun e => p e = some f ∧ (R e ∧ A (U e) ∧ A (V e))) ⟨he.1, he.2, hu, (hAR e he.2).mp hu⟩⟩)).2 hx
    obtain ⟨a0, _, a1, a2⟩ := gc_least hAw
    have h1 := gf_cge (U := U) (V := V) (X := fun e => p e = some f ∧ (R e ∧ A (U e) ∧ A (V e))) (n := n) (fun e he => hAn _ he.2.2.1) (fun e he => hAn _ he.2.2.2) M
    rw [gf_all (fun e he => (hR e he.2.1).1)] at h1
    have h2 := gc_roots a1 (hAn a0 a1)
    have h3 : gr_c U V (fun e => p e = some f ∧ (R e ∧ A (U e) ∧ A (V e))) n ≤ gc_n (fun v => ¬ A v ∨ v = a0) n := gc_mono (fun v hv hr => by
      by_cases c : A v
      · refine Or.inr ?_
        rcases Nat.lt_trichotomy v a0 with z | z | z
        · exact absurd c (a2 v z)
        · exact z
        · exact absurd (hcon a0 v a1 c) (hr a0 z)
      · exact Or.inl c)
    omega
  have s1 := gs_parts (P := fun e => R e ∧ A (U e) ∧ A (V e)) (q := p) (k := k) (fun e he => (hR e he.1).2.2.2) M
  have s2 := gs_ge hfor
  have s3 := hnw A ⟨_, hAw⟩ hAn
  have s4 : gc_n (fun e => (R e ∨ e = w) ∧ A (U e) ∧ A (V e)) M ≤ gc_n (fun e => S e ∧ A (U e) ∧ A (V e)) M := gc_mono (fun e _ he => ⟨hS e he.1, he.2⟩)
  have s5 : gc_n (fun e => (R e ∨ e = w) ∧ A (U e) ∧ A (V e)) M = gc_n (fun e => R e ∧ A (U e) ∧ A (V e)) M + 1 := gc_out (w := w) ⟨Or.inr rfl, hAw, hAw2⟩ (fun z => hw z.1) hwM (fun v _ hv => ⟨fun z => ⟨z.1.resolve_right hv, z.2⟩, fun z => ⟨Or.inl z.1, z.2⟩⟩)
  omega
end NW
