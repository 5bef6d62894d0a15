/-! PACKINGS, in pure words -/
section GH
variable {U V : Nat → Nat} {X Y : Nat → Prop} {a b : Nat}
/-- edge w lies within what X holds together -/
abbrev gh_in (U V : Nat → Nat) (X : Nat → Prop) (w : Nat) : Prop := gq_con U V X (U w) (V w)
theorem gh_eq (h : ∀ e, X e ↔ Y e) : X = Y := funext fun e => propext (h e)
/-- a forest and an edge whose ends lie apart in it -/
theorem gh_add {w : Nat} (hf : gf_for U V X) (hw : ¬ gh_in U V X w) : gf_for U V (fun e => X e ∨ e = w) := by
  intro e he hc
  by_cases hew : e = w
  · subst hew
    refine hw (gq_mono (fun x hx => ?_) hc)
    rcases hx.1 with h | h
    · exact h
    · exact absurd h hx.2
  · have hX : X e := he.elim id (fun h => absurd h hew)
    have hc2 : gq_con U V (fun x => (X x ∧ x ≠ e) ∨ x = w) (U e) (V e) := gq_mono (fun x hx => hx.1.elim (fun h => Or.inl ⟨h, hx.2⟩) Or.inr) hc
    have up : ∀ {p q}, gq_con U V (fun x => X x ∧ x ≠ e) p q → gq_con U V X p q := fun h => gq_mono (fun _ hx => hx.1) h
    have hin : gq_con U V X (U e) (V e) := gq_ed hX
    rcases gq_add.mp hc2 with h | ⟨h1, h2⟩ | ⟨h1, h2⟩
    · exact hf e hX h
    · exact hw (gq_tr (gq_sy (up h1)) (gq_tr hin (gq_sy (up h2))))
    · exact hw (gq_tr (up h2) (gq_tr (gq_sy hin) (up h1)))
/-- in a forest a way is one alone: what holds without x and holds without y holds without both -/
theorem gh_uniq {x y : Nat} (hf : gf_for U V X) (hy : X y) (h1 : gq_con U V (fun e => X e ∧ e ≠ x) a b) (h2 : gq_con U V (fun e => X e ∧ e ≠ y) a b) : gq_con U V (fun e => (X e ∧ e ≠ x) ∧ e ≠ y) a b := by
  by_cases hxy : x = y
  · subst hxy
    exact gq_mono (fun e he => ⟨he, he.2⟩) h1
  · have h3 : gq_con U V (fun e => ((X e ∧ e ≠ x) ∧ e ≠ y) ∨ e = y) a b := gq_mono (fun e he => by
      by_cases h : e = y
      · exact Or.inr h
      · exact Or.inl ⟨he, h⟩) h1
    have up : ∀ {p q}, gq_con U V (fun e => (X e ∧ e ≠ x) ∧ e ≠ y) p q → gq_con U V (fun e => X e ∧ e ≠ y) p q := fun h => gq_mono (fun _ he => ⟨he.1.1, he.2⟩) h
    rcases gq_add.mp h3 with h | ⟨g1, g2⟩ | ⟨g1, g2⟩
    · exact h
    · exact absurd (gq_tr (gq_sy (up g1)) (gq_tr h2 (gq_sy (up g2)))) (hf y hy)
    · exact absurd (gq_tr (up g2) (gq_tr (gq_sy h2) (up g1))) (hf y hy)
/-- an edge more in a forest holds no more together of what lay together: without y it stays apart -/
theorem gh_keep {x y w : Nat} (hw : ¬ gh_in U V X w) (hin : gh_in U V X x) (h : ¬ gh_in U V (fun e => X e ∧ e ≠ y) x) : ¬ gh_in U V (fun e => (X e ∨ e = w) ∧ e ≠ y) x := by
  intro hc
  have hc2 : gq_con U V (fun e => (X e ∧ e ≠ y) ∨ e = w) (U x) (V x) := gq_mono (fun e he => he.1.elim (fun z => Or.inl ⟨z, he.2⟩) Or.inr) hc
  have up : ∀ {p q}, gq_con U V (fun e => X e ∧ e ≠ y) p q → gq_con U V X p q := fun h => gq_mono (fun _ he => he.1) h
  rcases gq_add.mp hc2 with g | ⟨g1, g2⟩ | ⟨g1, g2⟩
  · exact h g
  · exact hw (gq_tr (gq_sy (up g1)) (gq_tr hin (gq_sy (up g2))))
  · exact hw (gq_tr (up g2) (gq_tr (gq_sy hin) (up g1)))
end GH
/-! a packing: p e = some i, edge e is in forest i -/
def gp_F (p : Nat → Option Nat) (i : Nat) : Nat → Prop := fun e => p e = some i
def gp_ok (U V : Nat → Nat) (k : Nat) (p : Nat → Option Nat) : Prop := (∀ e i, p e = some i → i < k) ∧ ∀ i, i < k → gf_for U V (gp_F p i)
/-- S can be packed; with those of fx where p has them -/
def gp_fit (U V : Nat → Nat) (k : Nat) (S : Nat → Prop) : Prop := ∃ p, gp_ok U V k p ∧ ∀ e, S e ↔ p e ≠ none
def gp_fix (U V : Nat → Nat) (k : Nat) (S fx : Nat → Prop) (p : Nat → Option Nat) : Prop := ∃ p2, gp_ok U V k p2 ∧ (∀ e, S e ↔ p2 e ≠ none) ∧ ∀ e, fx e → p2 e = p e
/-- G holds all but the first of z :: r within; and so on with the forest that the first one leaves -/
def gp_pth (U V : Nat → Nat) (p : Nat → Option Nat) (G : Nat → Prop) : List Nat → Prop
  | [] => True
  | z :: r => ¬ gh_in U V G z ∧ (∀ y ∈ r, gh_in U V G y) ∧ (r ≠ [] → ∃ i, p z = some i ∧ gp_pth U V p (fun e => gp_F p i e ∧ e ≠ z) r)
def gp_mv (p : Nat → Option Nat) (z t : Nat) : Nat → Option Nat := va_up p z (some t)
section GP
variable {U V : Nat → Nat} {k : Nat} {p : Nat → Option Nat}
theorem gp_F_mv_t {z t : Nat} : gp_F (gp_mv p z t) t = (fun e => gp_F p t e ∨ e = z) := gh_eq fun e => by
  by_cases h : e = z
  · subst h; simp [gp_F, gp_mv, va_up_self]
  · simp [gp_F, gp_mv, va_up_ne _ _ h, h]
theorem gp_F_mv_o {z t i : Nat} (hi : i ≠ t) : gp_F (gp_mv p z t) i = (fun e => gp_F p i e ∧ e ≠ z) := gh_eq fun e => by
  by_cases h : e = z
  · subst h; simp [gp_F, gp_mv, va_up_self, Ne.symm hi]
  · simp [gp_F, gp_mv, va_up_ne _ _ h, h]
/-- one move: the packing stays one -/
theorem gp_mv_ok {z t : Nat} (h : gp_ok U V k p) (ht : t < k) (hz : ¬ gh_in U V (gp_F p t) z) : gp_ok U V k (gp_mv p z t) := by
  refine ⟨fun e i he => ?_, fun i hi => ?_⟩
  · by_cases hez : e = z
    · subst hez
      simp only [gp_mv, va_up_self, Option.some.injEq] at he
      omega
    · simp only [gp_mv, va_up_ne _ _ hez] at he
      exact h.1 e i he
  · by_cases hit : i = t
    · subst hit
      rw [gp_F_mv_t]
      exact gh_add (h.2 i hi) hz
    · rw [gp_F_mv_o hit]
      exact gf_sub (h.2 i hi) (fun e he => he.1)
/-- what a move leaves of the rest of the way -/
theorem gp_pth_mv {z t i : Nat} (h : gp_ok U V k p) (hz : p z = some i) (ht : t < k) (hzt : ¬ gh_in U V (gp_F p t) z) : ∀ (r : List Nat) (G : Nat → Prop), z ∉ r → (∀ y ∈ r, gh_in U V (gp_F p t) y) → (∀ y ∈ r.tail, gh_in U V (fun e => gp_F p i e ∧ e ≠ z) y) → gp_pth U V p G r → gp_pth U V (gp_mv p z t) G r
  | [], G, _, _, _, _ => trivial
  | x :: r, G, hn, h1, h2, hp => by
    obtain ⟨g1, g2, g3⟩ := hp
    refine ⟨g1, g2, fun hr => ?_⟩
    obtain ⟨j, hj, hp2⟩ := g3 hr
    have hxz : x ≠ z := fun e => hn (e ▸ List.mem_cons_self)
    have hnr : z ∉ r := fun hm => hn (List.mem_cons_of_mem _ hm)
    have hjk : j < k := h.1 x j hj
    have hti : t ≠ i := fun e => by subst e; exact hzt (gq_ed (show gp_F p t z from hz))
    refine ⟨j, by rw [gp_mv, va_up_ne _ _ hxz]; exact hj, ?_⟩
    have ih := gp_pth_mv h hz ht hzt r (fun e => gp_F p j e ∧ e ≠ x) hnr (fun y hy => h1 y (List.mem_cons_of_mem _ hy)) (fun y hy => h2 y (List.mem_of_mem_tail hy)) hp2
    -- the head's own set: what changed in forest j
    cases r with
    | nil => exact trivial
    | cons y r =>
      obtain ⟨q1, q2, q3⟩ := ih
      have hy : gh_in U V (gp_F p t) y := h1 y (List.mem_cons_of_mem _ List.mem_cons_self)
      by_cases hjt : j = t
      · subst hjt
        rw [gp_F_mv_t]
        refine ⟨gh_keep hzt hy q1, fun v hv => gq_mono (fun e he => ⟨Or.inl he.1, he.2⟩) (q2 v hv), q3⟩
      · rw [gp_F_mv_o hjt]
        by_cases hji : j = i
        · subst hji
          refine ⟨fun hc => q1 (gq_mono (fun e he => ⟨he.1.1, he.2⟩) hc), fun v hv => ?_, q3⟩
          exact gh_uniq (h.2 j hjk) hj (h2 v (List.mem_cons_of_mem _ hv)) (q2 v hv)
        · have hsame : (fun e => (gp_F p j e ∧ e ≠ z) ∧ e ≠ x) = (fun e => gp_F p j e ∧ e ≠ x) := gh_eq fun e => ⟨fun q => ⟨q.1.1, q.2⟩, fun q => ⟨⟨q.1, fun ez => by
            subst ez
            have : some j = some i := (show p e = some j from q.1).symm.trans hz
            exact hji (Option.some.inj this)⟩, q.2⟩⟩
          rw [hsame]
          exact ⟨q1, q2, q3⟩
/-- ONE STEP of the row of moves: the last edge goes to the forest t, the rest of the way goes on towards the one that it leaves -/
theorem gp_step {z t : Nat} {r : List Nat} (h : gp_ok U V k p) (ht : t < k) (hn : z ∉ r) (hr : r ≠ []) (hp : gp_pth U V p (gp_F p t) (z :: r)) : ∃ i, p z = some i ∧ i < k ∧ gp_ok U V k (gp_mv p z t) ∧ gp_pth U V (gp_mv p z t) (gp_F (gp_mv p z t) i) r := by
  obtain ⟨h1, h2, h3⟩ := hp
  obtain ⟨i, hi, hp2⟩ := h3 hr
  have hti : i ≠ t := fun e => by subst e; exact h1 (gq_ed (show gp_F p i z from hi))
  refine ⟨i, hi, h.1 z i hi, gp_mv_ok h ht h1, ?_⟩
  rw [gp_F_mv_o hti]
  refine gp_pth_mv h hi ht h1 r _ hn h2 (fun y hy => ?_) hp2
  cases r with
  | nil => exact absurd rfl hr
  | cons x r => exact hp2.2.1 y hy
end GP
