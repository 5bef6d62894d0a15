/-! ROOTED FORESTS, in pure words: a tree hung up by its root, and the set of edges that it holds -/
def itr (par : Nat → Option Nat) : Option Nat → Nat → Option Nat
  | v, 0 => v
  | none, _ + 1 => none
  | some v, m + 1 => itr par (par v) m
section TR
variable {U V : Nat → Nat} {par eup : Nat → Option Nat} {F : Nat → Prop}
theorem itr_none : ∀ m, itr par none m = none
  | 0 => rfl
  | _ + 1 => rfl
theorem itr_add : ∀ (m n : Nat) (v : Option Nat), itr par (itr par v m) n = itr par v (m + n)
  | 0, n, v => by rw [Nat.zero_add]; rfl
  | m + 1, n, none => by rw [itr_none, itr_none, itr_none]
  | m + 1, n, some v => by
    rw [show m + 1 + n = (m + n) + 1 by omega]
    exact itr_add m n (par v)
theorem itr_s {v : Option Nat} {m x : Nat} (h : itr par v m = some x) : itr par v (m + 1) = par x := by
  rw [← itr_add m 1 v, h]; rfl
def tr_ok (U V : Nat → Nat) (par eup : Nat → Option Nat) (F : Nat → Prop) : Prop :=
  (∀ v, (par v = none ∧ eup v = none) ∨ ∃ u e, v < 10 ∧ u < 10 ∧ par v = some u ∧ eup v = some e ∧ F e ∧ ((U e = u ∧ V e = v) ∨ (U e = v ∧ V e = u))) ∧ (∀ e, F e → ∃ v, eup v = some e) ∧ (∀ v w e, eup v = some e → eup w = some e → v = w) ∧ ∃ d : Nat → Nat, ∀ v u, par v = some u → d u < d v
theorem tr_none : tr_ok U V (fun _ => none) (fun _ => none) (fun _ => False) := ⟨fun _ => Or.inl ⟨rfl, rfl⟩, fun _ h => absurd h id, fun _ _ _ h => (by cases h), fun _ => 0, fun _ _ h => (by cases h)⟩
theorem itr_lt {d : Nat → Nat} (hd : ∀ v u, par v = some u → d u < d v) : ∀ m v x, itr par (some v) (m + 1) = some x → d x < d v
  | 0, v, x, h => hd v x h
  | m + 1, v, x, h => by
    have h1 : itr par (par v) (m + 1) = some x := h
    cases hp : par v with
    | none => rw [hp, itr_none] at h1; cases h1
    | some u =>
      rw [hp] at h1
      have := itr_lt hd m u x h1
      have := hd v u hp
      omega
/-- the ten steps are enough -/
theorem itr_ten (h : tr_ok U V par eup F) {v : Nat} (hv : v < 10) : itr par (some v) 10 = none := by
  cases hq : itr par (some v) 10 with
  | none => rfl
  | some y =>
    exfalso
    obtain ⟨h1, -, -, d, hd⟩ := h
    have some_ : ∀ m, m ≤ 10 → ∃ x, itr par (some v) m = some x := by
      intro m hm
      cases hx : itr par (some v) m with
      | some x => exact ⟨x, rfl⟩
      | none =>
        have := itr_add (par := par) m (10 - m) (some v)
        rw [hx, itr_none, show m + (10 - m) = 10 by omega, hq] at this
        cases this
    have lt10 : ∀ m, m ≤ 10 → ∀ x, itr par (some v) m = some x → x < 10 := by
      intro m hm x hx
      cases m with
      | zero => cases hx; exact hv
      | succ m =>
        obtain ⟨z, hz⟩ := some_ m (by omega)
        rw [itr_s hz] at hx
        rcases h1 z with q | ⟨u, e, _, c2, c3, _⟩
        · rw [q.1] at hx; cases hx
        · rw [c3] at hx; cases hx; exact c2
    have inj : ∀ a b x, itr par (some v) a = some x → itr par (some v) b = some x → a < b → False := by
      intro a b x ha hb hab
      have : itr par (some x) (b - a - 1 + 1) = some x := by rw [← ha, itr_add, show a + (b - a - 1 + 1) = b by omega, hb, ha]
      have := itr_lt hd _ _ _ this
      omega
    have hlist : ∀ n, n ≤ 11 → ∃ L : List Nat, L.length = n ∧ L.Nodup ∧ ∀ x, x ∈ L → ∃ m, m < n ∧ itr par (some v) m = some x := by
      intro n
      induction n with
      | zero => exact fun _ => ⟨[], rfl, by simp, fun x hx => by cases hx⟩
      | succ n ih =>
        intro hn
        obtain ⟨L, l1, l2, l3⟩ := ih (by omega)
        obtain ⟨x, hx⟩ := some_ n (by omega)
        refine ⟨x :: L, by simp [l1], List.nodup_cons.mpr ⟨fun hm => ?_, l2⟩, fun y hy => ?_⟩
        · obtain ⟨m, m1, m2⟩ := l3 x hm
          exact inj m n x m2 hx m1
        · rcases List.mem_cons.mp hy with q | q
          · rw [q]; exact ⟨n, by omega, hx⟩
          · obtain ⟨m, m1, m2⟩ := l3 y q
            exact ⟨m, by omega, m2⟩
    obtain ⟨L, l1, l2, l3⟩ := hlist 11 (by omega)
    have := nd_le (n := 10) l2 (fun x hx => by
      obtain ⟨m, m1, m2⟩ := l3 x hx
      exact lt10 m (by omega) x m2)
    omega
/-- y hangs below v -/
def trD (par : Nat → Option Nat) (v y : Nat) : Prop := ∃ m, itr par (some y) m = some v
theorem trD_s {v y u : Nat} (hy : y ≠ v) (hp : par y = some u) : trD par v y ↔ trD par v u := by
  constructor
  · rintro ⟨m, hm⟩
    cases m with
    | zero => cases hm; exact absurd rfl hy
    | succ m =>
      have : itr par (par y) m = some v := hm
      rw [hp] at this
      exact ⟨m, this⟩
  · rintro ⟨m, hm⟩
    refine ⟨m + 1, ?_⟩
    show itr par (par y) m = some v
    rw [hp]; exact hm
/-- what hangs below v stays apart, without v's own edge -/
theorem tr_cut (h : tr_ok U V par eup F) {v e a b : Nat} (hv : eup v = some e) (hc : gq_con U V (fun x => F x ∧ x ≠ e) a b) : trD par v a ↔ trD par v b := by
  refine hc (fun a b => trD par v a ↔ trD par v b) ⟨fun _ => Iff.rfl, fun _ _ q => q.symm, fun _ _ _ q r => q.trans r⟩ (fun x hx => ?_)
  obtain ⟨y, hy⟩ := h.2.1 x hx.1
  have hyv : y ≠ v := fun q => by
    rw [q, hv] at hy
    exact hx.2 (Option.some.inj hy).symm
  rcases h.1 y with q | ⟨u, e2, _, _, c3, c4, _, c6⟩
  · rw [q.2] at hy; cases hy
  · have he2 : e2 = x := Option.some.inj (c4.symm.trans hy)
    subst he2
    have := trD_s hyv c3
    rcases c6 with ⟨d1, d2⟩ | ⟨d1, d2⟩
    · rw [d1, d2]; exact this.symm
    · rw [d1, d2]; exact this
theorem tr_top (h : tr_ok U V par eup F) {r a b : Nat} (hr : par r = none) (hc : gq_con U V F a b) : trD par r a ↔ trD par r b := by
  refine hc (fun a b => trD par r a ↔ trD par r b) ⟨fun _ => Iff.rfl, fun _ _ q => q.symm, fun _ _ _ q r => q.trans r⟩ (fun x hx => ?_)
  obtain ⟨y, hy⟩ := h.2.1 x hx
  rcases h.1 y with q | ⟨u, e2, _, _, c3, c4, _, c6⟩
  · rw [q.2] at hy; cases hy
  · have he2 : e2 = x := Option.some.inj (c4.symm.trans hy)
    subst he2
    have hyr : y ≠ r := fun q => by rw [q, hr] at c3; cases c3
    have := trD_s hyr c3
    rcases c6 with ⟨d1, d2⟩ | ⟨d1, d2⟩
    · rw [d1, d2]; exact this.symm
    · rw [d1, d2]; exact this
theorem tr_self {v : Nat} : trD par v v := ⟨0, rfl⟩
theorem tr_nup (h : tr_ok U V par eup F) {v u : Nat} (hp : par v = some u) : ¬ trD par v u := by
  obtain ⟨-, -, -, d, hd⟩ := h
  rintro ⟨m, hm⟩
  have : itr par (some v) (m + 1) = some v := by show itr par (par v) m = some v; rw [hp]; exact hm
  have := itr_lt hd m v v this
  omega
theorem tr_forest (h : tr_ok U V par eup F) : gf_for U V F := by
  intro e he hc
  obtain ⟨v, hv⟩ := h.2.1 e he
  rcases h.1 v with q | ⟨u, e2, _, _, c3, c4, _, c6⟩
  · rw [q.2] at hv; cases hv
  · have he2 : e2 = e := Option.some.inj (c4.symm.trans hv)
    subst he2
    have hd := tr_cut h hv hc
    have hn := tr_nup h c3
    rcases c6 with ⟨d1, d2⟩ | ⟨d1, d2⟩
    · rw [d1, d2] at hd; exact hn (hd.mpr tr_self)
    · rw [d1, d2] at hd; exact hn (hd.mp tr_self)
/-- an edge goes: its lower end becomes a root -/
theorem tr_unlink (h : tr_ok U V par eup F) {v e : Nat} (hv : eup v = some e) : tr_ok U V (va_up par v none) (va_up eup v none) (fun x => F x ∧ x ≠ e) := by
  obtain ⟨h1, h2, h3, d, hd⟩ := h
  refine ⟨fun y => ?_, fun x hx => ?_, fun y z x hy hz => ?_, d, fun y u hy => ?_⟩
  · by_cases q : y = v
    · subst q; exact Or.inl ⟨va_up_self _ _ _, va_up_self _ _ _⟩
    · rw [va_up_ne _ _ q, va_up_ne _ _ q]
      rcases h1 y with c | ⟨u, e2, c1, c2, c3, c4, c5, c6⟩
      · exact Or.inl c
      · exact Or.inr ⟨u, e2, c1, c2, c3, c4, ⟨c5, fun z => q (h3 y v e (z ▸ c4) hv)⟩, c6⟩
  · obtain ⟨y, hy⟩ := h2 x hx.1
    have q : y ≠ v := fun q => by rw [q, hv] at hy; exact hx.2 (Option.some.inj hy).symm
    exact ⟨y, by rw [va_up_ne _ _ q]; exact hy⟩
  · have qy : y ≠ v := fun q => by rw [q, va_up_self] at hy; cases hy
    have qz : z ≠ v := fun q => by rw [q, va_up_self] at hz; cases hz
    rw [va_up_ne _ _ qy] at hy
    rw [va_up_ne _ _ qz] at hz
    exact h3 y z x hy hz
  · have qy : y ≠ v := fun q => by rw [q, va_up_self] at hy; cases hy
    rw [va_up_ne _ _ qy] at hy
    exact hd y u hy
/-- a root is hung on a vertex of another tree -/
theorem tr_hang (h : tr_ok U V par eup F) {v u e : Nat} (hv : v < 10) (hu : u < 10) (hr : par v = none) (he : ¬ F e) (hends : (U e = u ∧ V e = v) ∨ (U e = v ∧ V e = u)) (hc : ¬ gq_con U V F u v) : tr_ok U V (va_up par v (some u)) (va_up eup v (some e)) (fun x => F x ∨ x = e) := by
  have hnd : ¬ trD par v u := by
    rintro ⟨m, hm⟩
    refine hc ?_
    have key : ∀ m x, itr par (some u) m = some x → gq_con U V F u x := by
      intro m
      induction m with
      | zero => intro x hx; cases hx; exact gq_rf
      | succ m ih =>
        intro x hx
        cases hz : itr par (some u) m with
        | none =>
          have := itr_add (par := par) m 1 (some u)
          rw [hz, itr_none] at this
          rw [← this] at hx
          cases hx
        | some z =>
          rw [itr_s hz] at hx
          rcases h.1 z with q | ⟨u2, e2, _, _, c3, c4, c5, c6⟩
          · rw [q.1] at hx; cases hx
          · rw [c3] at hx
            cases hx
            refine gq_tr (ih z hz) ?_
            rcases c6 with ⟨d1, d2⟩ | ⟨d1, d2⟩
            · rw [← d1, ← d2]; exact gq_sy (gq_ed c5)
            · rw [← d1, ← d2]; exact gq_ed c5
    exact key m v hm
  obtain ⟨h1, h2, h3, d, hd⟩ := h
  have hne : ∀ y, eup y ≠ some e := fun y hy => by
    rcases h1 y with q | ⟨u2, e2, _, _, _, c4, c5, _⟩
    · rw [q.2] at hy; cases hy
    · rw [hy] at c4; cases c4; exact he c5
  have hdec : ∀ y, Decidable (trD par v y) := fun y => Classical.propDecidable _
  refine ⟨fun y => ?_, fun x hx => ?_, fun y z x hy hz => ?_, fun y => if trD par v y then d y + d u + 1 else d y, fun y w hy => ?_⟩
  · by_cases q : y = v
    · subst q
      exact Or.inr ⟨u, e, hv, hu, va_up_self _ _ _, va_up_self _ _ _, Or.inr rfl, hends⟩
    · rw [va_up_ne _ _ q, va_up_ne _ _ q]
      rcases h1 y with c | ⟨u2, e2, c1, c2, c3, c4, c5, c6⟩
      · exact Or.inl c
      · exact Or.inr ⟨u2, e2, c1, c2, c3, c4, Or.inl c5, c6⟩
  · rcases hx with hx | hx
    · obtain ⟨y, hy⟩ := h2 x hx
      have q : y ≠ v := fun q => by
        rcases h1 y with c | ⟨u2, e2, _, _, c3, _⟩
        · rw [c.2] at hy; cases hy
        · rw [q, hr] at c3; cases c3
      exact ⟨y, by rw [va_up_ne _ _ q]; exact hy⟩
    · exact ⟨v, by rw [va_up_self, hx]⟩
  · by_cases qy : y = v <;> by_cases qz : z = v
    · rw [qy, qz]
    · rw [qy, va_up_self] at hy
      cases hy
      rw [va_up_ne _ _ qz] at hz
      exact absurd hz (hne z)
    · rw [qz, va_up_self] at hz
      cases hz
      rw [va_up_ne _ _ qy] at hy
      exact absurd hy (hne y)
    · rw [va_up_ne _ _ qy] at hy
      rw [va_up_ne _ _ qz] at hz
      exact h3 y z x hy hz
  · by_cases q : y = v
    · subst q
      rw [va_up_self] at hy
      cases hy
      show (if trD par y u then _ else _) < (if trD par y y then _ else _)
      rw [if_neg hnd, if_pos tr_self]
      omega
    · rw [va_up_ne _ _ q] at hy
      have h9 := hd y w hy
      have h8 := trD_s (v := v) q hy
      show (if trD par v w then _ else _) < (if trD par v y then _ else _)
      by_cases c : trD par v y
      · rw [if_pos c, if_pos (h8.mp c)]; omega
      · rw [if_neg c, if_neg (fun z => c (h8.mpr z))]; exact h9
theorem itr_up {v : Nat} {w : Option Nat} : ∀ m x, (∀ i, itr par x i ≠ some v) → itr (va_up par v w) x m = itr par x m
  | 0, _, _ => rfl
  | m + 1, none, _ => rfl
  | m + 1, some y, h => by
    have hy : y ≠ v := fun q => h 0 (by rw [q]; rfl)
    show itr (va_up par v w) (va_up par v w y) m = itr par (par y) m
    rw [va_up_ne _ _ hy]
    exact itr_up m (par y) (fun i => h (i + 1))
/-- the line turns round: LINK -/
theorem tr_link : ∀ (n : Nat) (par eup : Nat → Option Nat) (F : Nat → Prop) (c np ne : Nat), tr_ok U V par eup F → c < 10 → np < 10 → ¬ F ne → ((U ne = np ∧ V ne = c) ∨ (U ne = c ∧ V ne = np)) → ¬ gq_con U V F np c → itr par (some c) n = none → tr_ok U V (lk n (par, eup) (some c) (some np) (some ne)).1 (lk n (par, eup) (some c) (some np) (some ne)).2 (fun x => F x ∨ x = ne)
  | 0, par, eup, F, c, np, ne, h, hc, hnp, hne, hends, hcon, hit => by cases hit
  | n + 1, par, eup, F, c, np, ne, h, hc, hnp, hne, hends, hcon, hit => by
    have hit : itr par (par c) n = none := hit
    rw [lk]
    cases hp : par c with
    | none =>
      have hlk : ∀ q : (Nat → Option Nat) × (Nat → Option Nat), ∀ a b, lk n q none a b = q := fun q a b => by cases n <;> rfl
      show tr_ok U V (lk n _ ((par, eup).1 c) _ _).1 (lk n _ ((par, eup).1 c) _ _).2 _
      rw [show ((par, eup).1 c) = none from hp, hlk]
      exact tr_hang h hc hnp hp hne hends hcon
    | some u =>
      rcases h.1 c with q | ⟨u2, x, c1, c2, c3, c4, c5, c6⟩
      · rw [q.1] at hp; cases hp
      · have hu2 : u2 = u := Option.some.inj (c3.symm.trans hp)
        subst hu2
        show tr_ok U V (lk n _ ((par, eup).1 c) _ ((par, eup).2 c)).1 (lk n _ ((par, eup).1 c) _ ((par, eup).2 c)).2 _
        rw [show ((par, eup).1 c) = some u2 from c3, show ((par, eup).2 c) = some x from c4]
        have hxne : x ≠ ne := fun q => hne (q ▸ c5)
        have h1 := tr_unlink h c4
        have hcon1 : ¬ gq_con U V (fun y => F y ∧ y ≠ x) np c := fun z => hcon (gq_mono (fun y hy => hy.1) z)
        have h2 := tr_hang h1 hc hnp (va_up_self _ _ _) (fun z => hne z.1) hends hcon1
        rw [bx_uu, bx_uu] at h2
        have hfor : gf_for U V (fun y => F y ∨ y = ne) := by
          refine gh_add (tr_forest h) (fun z => hcon ?_)
          rcases hends with ⟨d1, d2⟩ | ⟨d1, d2⟩
          · have z : gq_con U V F (U ne) (V ne) := z
            rw [d1, d2] at z; exact z
          · have z : gq_con U V F (U ne) (V ne) := z
            rw [d1, d2] at z; exact gq_sy z
        have hset : (fun y => (F y ∨ y = ne) ∧ y ≠ x) = (fun y => (F y ∧ y ≠ x) ∨ y = ne) := gh_eq fun y => ⟨fun z => z.1.elim (fun q => Or.inl ⟨q, z.2⟩) Or.inr, fun z => z.elim (fun q => ⟨Or.inl q.1, q.2⟩) (fun q => ⟨Or.inr q, fun q2 => hxne (q2.symm.trans q)⟩)⟩
        have hcon2 : ¬ gq_con U V (fun y => (F y ∧ y ≠ x) ∨ y = ne) c u2 := by
          rw [← hset]
          intro z
          refine hfor x (Or.inl c5) ?_
          rcases c6 with ⟨d1, d2⟩ | ⟨d1, d2⟩
          · rw [d1, d2]; exact gq_sy z
          · rw [d1, d2]; exact z
        have hav : ∀ i, itr par (some u2) i ≠ some c := fun i z => tr_nup h c3 ⟨i, z⟩
        have hit2 : itr (va_up par c (some np)) (some u2) n = none := by
          rw [itr_up n (some u2) hav, ← c3]; exact hit
        have h3 := tr_link n (va_up par c (some np)) (va_up eup c (some ne)) _ u2 c x h2 c2 hc (fun z => z.elim (fun q => q.2 rfl) hxne) (c6.elim (fun q => Or.inr q) (fun q => Or.inl q)) hcon2 hit2
        have hset2 : (fun y => ((F y ∧ y ≠ x) ∨ y = ne) ∨ y = x) = (fun y => F y ∨ y = ne) := gh_eq fun y => by
          constructor
          · rintro ((z | z) | z)
            · exact Or.inl z.1
            · exact Or.inr z
            · exact Or.inl (z ▸ c5)
          · rintro (z | z)
            · by_cases q : y = x
              · exact Or.inr q
              · exact Or.inl (Or.inl ⟨z, q⟩)
            · exact Or.inl (Or.inr z)
        rw [hset2] at h3
        exact h3
end TR
