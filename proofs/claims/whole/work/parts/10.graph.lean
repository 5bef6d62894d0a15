/-! GRAPHS, in pure words: sets of edges are predicates on edge numbers; an edge e joins U e and V e. No word of the machine stands here. -/
/-- how many numbers below n have P -/
noncomputable def gc_n (P : Nat → Prop) : Nat → Nat
  | 0 => 0
  | n + 1 => gc_n P n + @ite Nat (P n) (Classical.propDecidable _) 1 0
theorem gc_s1 {P : Nat → Prop} {n : Nat} (h : P n) : gc_n P (n + 1) = gc_n P n + 1 := by
  show gc_n P n + @ite Nat (P n) (Classical.propDecidable _) 1 0 = _
  rw [if_pos h]
theorem gc_s0 {P : Nat → Prop} {n : Nat} (h : ¬ P n) : gc_n P (n + 1) = gc_n P n := by
  show gc_n P n + @ite Nat (P n) (Classical.propDecidable _) 1 0 = _
  rw [if_neg h]; rfl
theorem gc_mono {P Q : Nat → Prop} : ∀ {n : Nat}, (∀ v, v < n → P v → Q v) → gc_n P n ≤ gc_n Q n
  | 0, _ => Nat.le_refl 0
  | n + 1, h => by
    have ih := gc_mono (P := P) (Q := Q) (n := n) (fun v hv => h v (by omega))
    by_cases hP : P n
    · rw [gc_s1 hP, gc_s1 (h n (by omega) hP)]; omega
    · rw [gc_s0 hP]
      by_cases hQ : Q n
      · rw [gc_s1 hQ]; omega
      · rw [gc_s0 hQ]; exact ih
theorem gc_congr {P Q : Nat → Prop} {n : Nat} (h : ∀ v, v < n → (P v ↔ Q v)) : gc_n P n = gc_n Q n :=
  Nat.le_antisymm (gc_mono fun v hv => (h v hv).mp) (gc_mono fun v hv => (h v hv).mpr)
theorem gc_le {P : Nat → Prop} : ∀ n, gc_n P n ≤ n
  | 0 => Nat.le_refl 0
  | n + 1 => by
    have ih := gc_le (P := P) n
    by_cases hP : P n
    · rw [gc_s1 hP]; omega
    · rw [gc_s0 hP]; omega
theorem gc_all {P : Nat → Prop} : ∀ n, (∀ v, v < n → P v) → gc_n P n = n
  | 0, _ => rfl
  | n + 1, h => by rw [gc_s1 (h n (by omega)), gc_all n (fun v hv => h v (by omega))]
theorem gc_none {P : Nat → Prop} : ∀ n, (∀ v, v < n → ¬ P v) → gc_n P n = 0
  | 0, _ => rfl
  | n + 1, h => by rw [gc_s0 (h n (by omega)), gc_none n (fun v hv => h v (by omega))]
/-- one less: a point is taken out -/
theorem gc_out {P Q : Nat → Prop} {w : Nat} (hw : P w) (hq : ¬ Q w) : ∀ {n : Nat}, w < n → (∀ v, v < n → v ≠ w → (P v ↔ Q v)) → gc_n P n = gc_n Q n + 1
  | 0, h, _ => absurd h (Nat.not_lt_zero _)
  | n + 1, h, hx => by
    by_cases hn : n = w
    · subst hn
      rw [gc_s1 hw, gc_s0 hq, gc_congr (fun v hv => hx v (by omega) (by omega))]
    · have ih := gc_out (P := P) (Q := Q) hw hq (n := n) (by omega) (fun v hv => hx v (by omega))
      by_cases hP : P n
      · rw [gc_s1 hP, gc_s1 ((hx n (by omega) hn).mp hP), ih]
      · rw [gc_s0 hP, gc_s0 (fun z => hP ((hx n (by omega) hn).mpr z)), ih]
/-- the least number with P -/
theorem gc_least {P : Nat → Prop} {x : Nat} (h : P x) : ∃ r, r ≤ x ∧ P r ∧ ∀ j, j < r → ¬ P j := by
  induction x using Nat.strongRecOn with
  | ind x ih =>
    by_cases hx : ∃ y, y < x ∧ P y
    · obtain ⟨y, hy, hp⟩ := hx
      obtain ⟨r, h1, h2, h3⟩ := ih y hy hp
      exact ⟨r, by omega, h2, h3⟩
    · exact ⟨x, Nat.le_refl x, h, fun j hj hp => hx ⟨j, hj, hp⟩⟩
/-! connected: in every equivalence that holds the ends of the edges of X together -/
def gq_eqv (R : Nat → Nat → Prop) : Prop := (∀ a, R a a) ∧ (∀ a b, R a b → R b a) ∧ ∀ a b c, R a b → R b c → R a c
def gq_con (U V : Nat → Nat) (X : Nat → Prop) (a b : Nat) : Prop := ∀ R : Nat → Nat → Prop, gq_eqv R → (∀ e, X e → R (U e) (V e)) → R a b
section GQ
variable {U V : Nat → Nat} {X Y : Nat → Prop} {a b c d : Nat}
theorem gq_rf : gq_con U V X a a := fun _ hR _ => hR.1 a
theorem gq_sy (h : gq_con U V X a b) : gq_con U V X b a := fun R hR hX => hR.2.1 _ _ (h R hR hX)
theorem gq_tr (h : gq_con U V X a b) (h2 : gq_con U V X b c) : gq_con U V X a c := fun R hR hX => hR.2.2 _ _ _ (h R hR hX) (h2 R hR hX)
theorem gq_ed {e : Nat} (h : X e) : gq_con U V X (U e) (V e) := fun _ _ hX => hX e h
theorem gq_is : gq_eqv (gq_con U V X) := ⟨fun _ => gq_rf, fun _ _ => gq_sy, fun _ _ _ => gq_tr⟩
/-- what X holds together, Y holds, if Y does so with each edge of X -/
theorem gq_in (h : ∀ e, X e → gq_con U V Y (U e) (V e)) (hc : gq_con U V X a b) : gq_con U V Y a b := hc _ gq_is h
theorem gq_mono (h : ∀ e, X e → Y e) (hc : gq_con U V X a b) : gq_con U V Y a b := gq_in (fun e he => gq_ed (h e he)) hc
/-- one edge more -/
theorem gq_add {w : Nat} : gq_con U V (fun e => X e ∨ e = w) a b ↔ gq_con U V X a b ∨ (gq_con U V X a (U w) ∧ gq_con U V X (V w) b) ∨ (gq_con U V X a (V w) ∧ gq_con U V X (U w) b) := by
  constructor
  · intro h
    refine h (fun a b => gq_con U V X a b ∨ (gq_con U V X a (U w) ∧ gq_con U V X (V w) b) ∨ (gq_con U V X a (V w) ∧ gq_con U V X (U w) b)) ⟨fun a => Or.inl gq_rf, ?_, ?_⟩ ?_
    · rintro a b (h | ⟨h1, h2⟩ | ⟨h1, h2⟩)
      · exact Or.inl (gq_sy h)
      · exact Or.inr (Or.inr ⟨gq_sy h2, gq_sy h1⟩)
      · exact Or.inr (Or.inl ⟨gq_sy h2, gq_sy h1⟩)
    · rintro a b c (h | ⟨h1, h2⟩ | ⟨h1, h2⟩) (g | ⟨g1, g2⟩ | ⟨g1, g2⟩)
      · exact Or.inl (gq_tr h g)
      · exact Or.inr (Or.inl ⟨gq_tr h g1, g2⟩)
      · exact Or.inr (Or.inr ⟨gq_tr h g1, g2⟩)
      · exact Or.inr (Or.inl ⟨h1, gq_tr h2 g⟩)
      · exact Or.inr (Or.inl ⟨h1, g2⟩)
      · exact Or.inl (gq_tr h1 g2)
      · exact Or.inr (Or.inr ⟨h1, gq_tr h2 g⟩)
      · exact Or.inl (gq_tr h1 g2)
      · exact Or.inr (Or.inr ⟨h1, g2⟩)
    · rintro e (he | rfl)
      · exact Or.inl (gq_ed he)
      · exact Or.inr (Or.inl ⟨gq_rf, gq_rf⟩)
  · have hm : ∀ {x y}, gq_con U V X x y → gq_con U V (fun e => X e ∨ e = w) x y := fun h => gq_mono (fun _ he => Or.inl he) h
    have hw : gq_con U V (fun e => X e ∨ e = w) (U w) (V w) := gq_ed (Or.inr rfl)
    rintro (h | ⟨h1, h2⟩ | ⟨h1, h2⟩)
    · exact hm h
    · exact gq_tr (hm h1) (gq_tr hw (hm h2))
    · exact gq_tr (hm h1) (gq_tr (gq_sy hw) (hm h2))
end GQ
/-! roots: the least vertex of each part; how many there are below n -/
def gr_root (U V : Nat → Nat) (X : Nat → Prop) (v : Nat) : Prop := ∀ u, u < v → ¬ gq_con U V X u v
noncomputable def gr_c (U V : Nat → Nat) (X : Nat → Prop) (n : Nat) : Nat := gc_n (gr_root U V X) n
section GR
variable {U V : Nat → Nat} {X Y : Nat → Prop} {n : Nat}
theorem gr_has (v : Nat) : ∃ r, r ≤ v ∧ gq_con U V X r v ∧ gr_root U V X r := by
  obtain ⟨r, h1, h2, h3⟩ := gc_least (P := fun r => gq_con U V X r v) (x := v) gq_rf
  exact ⟨r, h1, h2, fun u hu hc => h3 u hu (gq_tr hc h2)⟩
theorem gr_uniq {r t : Nat} (hr : gr_root U V X r) (ht : gr_root U V X t) (h : gq_con U V X r t) : r = t := by
  rcases Nat.lt_trichotomy r t with q | q | q
  · exact absurd h (ht r q)
  · exact q
  · exact absurd (gq_sy h) (hr t q)
theorem gr_mono (h : ∀ a b, gq_con U V X a b → gq_con U V Y a b) : gr_c U V Y n ≤ gr_c U V X n :=
  gc_mono fun _ _ hr u hu hc => hr u hu (h _ _ hc)
theorem gr_same (h : ∀ a b, gq_con U V X a b ↔ gq_con U V Y a b) : gr_c U V Y n = gr_c U V X n :=
  Nat.le_antisymm (gr_mono fun a b => (h a b).mp) (gr_mono fun a b => (h a b).mpr)
theorem gr_none (h : ∀ e, ¬ X e) : gr_c U V X n = n := by
  refine gc_all n fun v _ u hu hc => ?_
  have : u = v := hc (fun a b => a = b) ⟨fun _ => rfl, fun _ _ h => h.symm, fun _ _ _ h g => h.trans g⟩ (fun e he => absurd he (h e))
  omega
/-- an edge whose ends lie apart: one part less -/
theorem gr_join {w : Nat} (hU : U w < n) (hV : V w < n) (h : ¬ gq_con U V X (U w) (V w)) : gr_c U V X n = gr_c U V (fun e => X e ∨ e = w) n + 1 := by
  obtain ⟨r, r1, r2, r3⟩ := gr_has (U := U) (V := V) (X := X) (U w)
  obtain ⟨t, t1, t2, t3⟩ := gr_has (U := U) (V := V) (X := X) (V w)
  have hne : r ≠ t := fun e => by subst e; exact h (gq_tr (gq_sy r2) t2)
  have key : ∀ (p q x y : Nat), p < q → q < n → gr_root U V X p → gr_root U V X q → gq_con U V X p x → gq_con U V X q y → (∀ a b, gq_con U V (fun e => X e ∨ e = w) a b ↔ gq_con U V X a b ∨ (gq_con U V X a x ∧ gq_con U V X y b) ∨ (gq_con U V X a y ∧ gq_con U V X x b)) → gr_c U V X n = gr_c U V (fun e => X e ∨ e = w) n + 1 := by
    intro p q x y hpq hqn hp hq hpx hqy hadd
    refine gc_out (w := q) hq (fun z => z p hpq ((hadd p q).mpr (Or.inr (Or.inl ⟨hpx, gq_sy hqy⟩)))) hqn (fun v _ hvq => ⟨fun hv u hu hc => ?_, fun hv u hu hc => hv u hu ((hadd u v).mpr (Or.inl hc))⟩)
    rcases (hadd u v).mp hc with g | ⟨g1, g2⟩ | ⟨g1, g2⟩
    · exact hv u hu g
    · exact hvq (gr_uniq hv hq (gq_sy (gq_tr hqy g2)))
    · have hvp : v = p := gr_uniq hv hp (gq_sy (gq_tr hpx g2))
      have huq : gq_con U V X u q := gq_tr g1 (gq_sy hqy)
      exact hq u (by omega) huq
  rcases Nat.lt_or_gt_of_ne hne with q | q
  · exact key r t (U w) (V w) q (by omega) r3 t3 r2 t2 (fun a b => gq_add)
  · exact key t r (V w) (U w) q (by omega) t3 r3 t2 r2 (fun a b => gq_add.trans ⟨fun h => h.elim Or.inl (fun h => Or.inr h.symm), fun h => h.elim Or.inl (fun h => Or.inr h.symm)⟩)
theorem gr_join_le {w : Nat} (hU : U w < n) (hV : V w < n) : gr_c U V X n ≤ gr_c U V (fun e => X e ∨ e = w) n + 1 := by
  by_cases h : gq_con U V X (U w) (V w)
  · refine Nat.le_succ_of_le (Nat.le_of_eq (gr_same fun a b => ?_))
    rw [gq_add]
    refine ⟨fun z => ?_, Or.inl⟩
    rcases z with z | ⟨z1, z2⟩ | ⟨z1, z2⟩
    · exact z
    · exact gq_tr z1 (gq_tr h z2)
    · exact gq_tr z1 (gq_tr (gq_sy h) z2)
  · exact Nat.le_of_eq (gr_join hU hV h)
end GR
/-! forests -/
def gf_for (U V : Nat → Nat) (X : Nat → Prop) : Prop := ∀ e, X e → ¬ gq_con U V (fun x => X x ∧ x ≠ e) (U e) (V e)
section GF
variable {U V : Nat → Nat} {X Y I J : Nat → Prop} {n M : Nat}
theorem gf_sub (h : gf_for U V Y) (hs : ∀ e, X e → Y e) : gf_for U V X := fun e he hc => h e (hs e he) (gq_mono (fun x hx => ⟨hs x hx.1, hx.2⟩) hc)
theorem gf_step (m : Nat) : (fun x => X x ∧ x < m + 1) = (fun x => (X x ∧ x < m) ∨ (X x ∧ x = m)) := by
  funext x
  apply propext
  constructor
  · rintro ⟨h1, h2⟩
    rcases Nat.lt_or_ge x m with q | q
    · exact Or.inl ⟨h1, q⟩
    · exact Or.inr ⟨h1, by omega⟩
  · rintro (⟨h1, h2⟩ | ⟨h1, h2⟩)
    · exact ⟨h1, by omega⟩
    · exact ⟨h1, by omega⟩
theorem gf_cge (hU : ∀ e, X e → U e < n) (hV : ∀ e, X e → V e < n) : ∀ m, n ≤ gr_c U V (fun x => X x ∧ x < m) n + gc_n X m
  | 0 => by rw [gr_none (fun e h => absurd h.2 (Nat.not_lt_zero e))]; omega
  | m + 1 => by
    have ih := gf_cge hU hV m
    rw [gf_step]
    by_cases hm : X m
    · rw [gc_s1 hm]
      have h := gr_join_le (X := fun x => X x ∧ x < m) (hU m hm) (hV m hm)
      rw [show (fun e => (X e ∧ e < m) ∨ e = m) = (fun x => (X x ∧ x < m) ∨ (X x ∧ x = m)) from funext fun x => propext ⟨fun z => z.elim Or.inl (fun q => Or.inr ⟨q ▸ hm, q⟩), fun z => z.elim Or.inl (fun q => Or.inr q.2)⟩] at h
      omega
    · rw [gc_s0 hm]
      rw [show (fun x => (X x ∧ x < m) ∨ (X x ∧ x = m)) = (fun x => X x ∧ x < m) from funext fun x => propext ⟨fun z => z.elim id (fun q => absurd (q.2 ▸ q.1) hm), Or.inl⟩]
      exact ih
theorem gf_ceq (hf : gf_for U V X) (hU : ∀ e, X e → U e < n) (hV : ∀ e, X e → V e < n) : ∀ m, n = gr_c U V (fun x => X x ∧ x < m) n + gc_n X m
  | 0 => by rw [gr_none (fun e h => absurd h.2 (Nat.not_lt_zero e))]; rfl
  | m + 1 => by
    have ih := gf_ceq hf hU hV m
    rw [gf_step]
    by_cases hm : X m
    · rw [gc_s1 hm]
      have h := gr_join (X := fun x => X x ∧ x < m) (hU m hm) (hV m hm) (fun hc => hf m hm (gq_mono (fun x hx => ⟨hx.1, Nat.ne_of_lt hx.2⟩) hc))
      rw [show (fun e => (X e ∧ e < m) ∨ e = m) = (fun x => (X x ∧ x < m) ∨ (X x ∧ x = m)) from funext fun x => propext ⟨fun z => z.elim Or.inl (fun q => Or.inr ⟨q ▸ hm, q⟩), fun z => z.elim Or.inl (fun q => Or.inr q.2)⟩] at h
      omega
    · rw [gc_s0 hm]
      rw [show (fun x => (X x ∧ x < m) ∨ (X x ∧ x = m)) = (fun x => X x ∧ x < m) from funext fun x => propext ⟨fun z => z.elim id (fun q => absurd (q.2 ▸ q.1) hm), Or.inl⟩]
      exact ih
theorem gf_all (hM : ∀ e, X e → e < M) : (fun x => X x ∧ x < M) = X := funext fun x => propext ⟨fun h => h.1, fun h => ⟨h, hM x h⟩⟩
/-- RANK: a forest whose edges all lie within what I holds together has no more edges than I -/
theorem gf_rank (hJ : gf_for U V J) (hJM : ∀ e, J e → e < M) (hIM : ∀ e, I e → e < M) (hJU : ∀ e, J e → U e < n) (hJV : ∀ e, J e → V e < n) (hIU : ∀ e, I e → U e < n) (hIV : ∀ e, I e → V e < n) (hs : ∀ e, J e → gq_con U V I (U e) (V e)) : gc_n J M ≤ gc_n I M := by
  have h1 := gf_ceq hJ hJU hJV M
  have h2 := gf_cge hIU hIV M
  rw [gf_all hJM] at h1
  rw [gf_all hIM] at h2
  have h3 : gr_c U V I n ≤ gr_c U V J n := gr_mono fun a b hc => gq_in hs hc
  omega
end GF
