/-! THE WAY in a rooted forest is the ring -/
/-- what a way's answer must be: none: the ends lie apart; else the edges without any of which they would -/
def rg_is (U V : Nat → Nat) (F : Nat → Prop) (a b : Nat) (w : Option (Nat → Bool)) : Prop := match w with
  | none => ¬ gq_con U V F a b
  | some S => (∀ x, S x = true → F x) ∧ gq_con U V (fun x => S x = true) a b ∧ ∀ x, S x = true → ¬ gq_con U V (fun y => F y ∧ y ≠ x) a b
section WY
variable {U V : Nat → Nat} {par eup : Nat → Option Nat} {F : Nat → Prop}
theorem wm_up_iff : ∀ n v S i, wm_up par n v S i = true ↔ S i = true ∨ ∃ m, m < n ∧ itr par v m = some i
  | 0, v, S, i => ⟨Or.inl, fun h => h.elim id (fun ⟨m, q, _⟩ => absurd q (Nat.not_lt_zero m))⟩
  | n + 1, none, S, i => ⟨Or.inl, fun h => h.elim id (fun ⟨m, _, q⟩ => by rw [itr_none] at q; cases q)⟩
  | n + 1, some v, S, i => by
    rw [wm_up, wm_up_iff n (par v)]
    simp only [Bool.or_eq_true, decide_eq_true_eq]
    constructor
    · rintro ((h | h) | ⟨m, h1, h2⟩)
      · exact Or.inl h
      · exact Or.inr ⟨0, by omega, by rw [h]; rfl⟩
      · exact Or.inr ⟨m + 1, by omega, h2⟩
    · rintro (h | ⟨m, h1, h2⟩)
      · exact Or.inl (Or.inl h)
      · cases m with
        | zero => cases h2; exact Or.inl (Or.inr rfl)
        | succ m => exact Or.inr ⟨m, by omega, h2⟩
theorem wm_lo_is {A : Nat → Bool} : ∀ n v S, ∃ m, m ≤ n ∧ (wm_lo par eup A n v S).1 = itr par v m ∧ (∀ i, i < m → ∃ x, itr par v i = some x ∧ A x = false) ∧ (m = n ∨ itr par v m = none ∨ ∃ t, itr par v m = some t ∧ A t = true) ∧ ∀ y, (wm_lo par eup A n v S).2 y = true ↔ S y = true ∨ ∃ i x, i < m ∧ itr par v i = some x ∧ eup x = some y
  | 0, v, S => ⟨0, Nat.le_refl 0, rfl, fun i h => absurd h (Nat.not_lt_zero i), Or.inl rfl, fun y => ⟨Or.inl, fun h => h.elim id (fun ⟨i, _, q, _⟩ => absurd q (Nat.not_lt_zero i))⟩⟩
  | n + 1, none, S => ⟨0, Nat.zero_le _, rfl, fun i h => absurd h (Nat.not_lt_zero i), Or.inr (Or.inl rfl), fun y => ⟨Or.inl, fun h => h.elim id (fun ⟨i, _, q, _⟩ => absurd q (Nat.not_lt_zero i))⟩⟩
  | n + 1, some v, S => by
    rw [wm_lo]
    by_cases hA : A v = true
    · rw [if_pos hA]
      exact ⟨0, Nat.zero_le _, rfl, fun i h => absurd h (Nat.not_lt_zero i), Or.inr (Or.inr ⟨v, rfl, hA⟩), fun y => ⟨Or.inl, fun h => h.elim id (fun ⟨i, _, q, _⟩ => absurd q (Nat.not_lt_zero i))⟩⟩
    · rw [if_neg hA]
      obtain ⟨m, h1, h2, h3, h4, h5⟩ := wm_lo_is (A := A) n (par v) (fun i => S i || decide (eup v = some i))
      refine ⟨m + 1, by omega, h2, fun i hi => ?_, ?_, fun y => ?_⟩
      · cases i with
        | zero => exact ⟨v, rfl, by cases hb : A v; rfl; exact absurd hb hA⟩
        | succ i => exact h3 i (by omega)
      · rcases h4 with q | q | q
        · exact Or.inl (by omega)
        · exact Or.inr (Or.inl q)
        · exact Or.inr (Or.inr q)
      · rw [h5 y]
        simp only [Bool.or_eq_true, decide_eq_true_eq]
        constructor
        · rintro ((q | q) | ⟨i, x, q1, q2, q3⟩)
          · exact Or.inl q
          · exact Or.inr ⟨0, v, by omega, rfl, q⟩
          · exact Or.inr ⟨i + 1, x, by omega, q2, q3⟩
        · rintro (q | ⟨i, x, q1, q2, q3⟩)
          · exact Or.inl (Or.inl q)
          · cases i with
            | zero => cases q2; exact Or.inl (Or.inr q3)
            | succ i => exact Or.inr ⟨i, x, by omega, q2, q3⟩
theorem wm_en_is {t : Nat} : ∀ n v S, ∃ m, m ≤ n ∧ (∀ i, i < m → ∃ x, itr par v i = some x ∧ x ≠ t) ∧ (m = n ∨ itr par v m = none ∨ itr par v m = some t) ∧ ∀ y, wm_en par eup t n v S y = true ↔ S y = true ∨ ∃ i x, i < m ∧ itr par v i = some x ∧ eup x = some y
  | 0, v, S => ⟨0, Nat.le_refl 0, fun i h => absurd h (Nat.not_lt_zero i), Or.inl rfl, fun y => ⟨Or.inl, fun h => h.elim id (fun ⟨i, _, q, _⟩ => absurd q (Nat.not_lt_zero i))⟩⟩
  | n + 1, none, S => ⟨0, Nat.zero_le _, fun i h => absurd h (Nat.not_lt_zero i), Or.inr (Or.inl rfl), fun y => ⟨Or.inl, fun h => h.elim id (fun ⟨i, _, q, _⟩ => absurd q (Nat.not_lt_zero i))⟩⟩
  | n + 1, some v, S => by
    rw [wm_en]
    by_cases hA : v = t
    · rw [if_pos hA]
      exact ⟨0, Nat.zero_le _, fun i h => absurd h (Nat.not_lt_zero i), Or.inr (Or.inr (by rw [← hA]; rfl)), fun y => ⟨Or.inl, fun h => h.elim id (fun ⟨i, _, q, _⟩ => absurd q (Nat.not_lt_zero i))⟩⟩
    · rw [if_neg hA]
      obtain ⟨m, h1, h3, h4, h5⟩ := wm_en_is (t := t) n (par v) (fun i => S i || decide (eup v = some i))
      refine ⟨m + 1, by omega, fun i hi => ?_, ?_, fun y => ?_⟩
      · cases i with
        | zero => exact ⟨v, rfl, hA⟩
        | succ i => exact h3 i (by omega)
      · rcases h4 with q | q | q
        · exact Or.inl (by omega)
        · exact Or.inr (Or.inl q)
        · exact Or.inr (Or.inr q)
      · rw [h5 y]
        simp only [Bool.or_eq_true, decide_eq_true_eq]
        constructor
        · rintro ((q | q) | ⟨i, x, q1, q2, q3⟩)
          · exact Or.inl q
          · exact Or.inr ⟨0, v, by omega, rfl, q⟩
          · exact Or.inr ⟨i + 1, x, by omega, q2, q3⟩
        · rintro (q | ⟨i, x, q1, q2, q3⟩)
          · exact Or.inl (Or.inl q)
          · cases i with
            | zero => cases q2; exact Or.inl (Or.inr q3)
            | succ i => exact Or.inr ⟨i, x, by omega, q2, q3⟩
theorem itr_down {v : Option Nat} {m : Nat} (h : itr par v m = none) : ∀ i, m ≤ i → itr par v i = none := fun i hi => by
  rw [show i = m + (i - m) by omega, ← itr_add, h, itr_none]
theorem itr_prev {v : Option Nat} {m x : Nat} (h : itr par v m = some x) {i : Nat} (hi : i ≤ m) : ∃ y, itr par v i = some y := by
  cases hq : itr par v i with
  | some y => exact ⟨y, rfl⟩
  | none => rw [itr_down hq m hi] at h; cases h
/-- going up along edges of a set that holds them -/
theorem itr_con (h : tr_ok U V par eup F) (S : Nat → Prop) {a : Nat} : ∀ m x, itr par (some a) m = some x → (∀ i y e, i < m → itr par (some a) i = some y → eup y = some e → S e) → gq_con U V S a x
  | 0, x, hx, _ => by cases hx; exact gq_rf
  | m + 1, x, hx, hS => by
    obtain ⟨z, hz⟩ := itr_prev hx (show m ≤ m + 1 by omega)
    have ih := itr_con h S m z hz (fun i y e hi => hS i y e (by omega))
    rw [itr_s hz] at hx
    rcases h.1 z with q | ⟨u, e, _, _, c3, c4, c5, c6⟩
    · rw [q.1] at hx; cases hx
    · rw [c3] at hx
      cases hx
      have hSe := hS m z e (by omega) hz c4
      refine gq_tr ih ?_
      rcases c6 with ⟨d1, d2⟩ | ⟨d1, d2⟩
      · have := gq_ed (U := U) (V := V) (X := S) hSe
        rw [d1, d2] at this; exact gq_sy this
      · have := gq_ed (U := U) (V := V) (X := S) hSe
        rw [d1, d2] at this; exact this
theorem wm_ring (h : tr_ok U V par eup F) {a b : Nat} (ha : a < 10) (hb : b < 10) : rg_is U V F a b (wm par eup a b) := by
  have hta := itr_ten h ha
  have htb := itr_ten h hb
  have hup := wm_up_iff (par := par) 10 (some a) (fun _ => false)
  have hA : ∀ x, wm_up par 10 (some a) (fun _ => false) x = true ↔ trD par x a := fun x => by
    rw [hup]
    constructor
    · rintro (q | ⟨m, _, q⟩)
      · cases q
      · exact ⟨m, q⟩
    · rintro ⟨m, q⟩
      refine Or.inr ⟨m, ?_, q⟩
      rcases Nat.lt_or_ge m 10 with z | z
      · exact z
      · rw [itr_down hta m z] at q; cases q
  obtain ⟨m, h1, h2, h3, h4, h5⟩ := wm_lo_is (par := par) (eup := eup) (A := wm_up par 10 (some a) (fun _ => false)) 10 (some b) (fun _ => false)
  unfold wm
  generalize wm_lo par eup (wm_up par 10 (some a) (fun _ => false)) 10 (some b) (fun _ => false) = z at h2 h5
  obtain ⟨r, S1⟩ := z
  have h2 : r = itr par (some b) m := h2
  have h5 : ∀ y, S1 y = true ↔ (false = true) ∨ ∃ i x, i < m ∧ itr par (some b) i = some x ∧ eup x = some y := h5
  obtain ⟨-, -, -, d, hd⟩ := id h
  cases r with
  | none =>
    show ¬ gq_con U V F a b
    -- b's line never comes into a's
    have hno : ∀ i x, itr par (some b) i = some x → ¬ trD par x a := by
      intro i x hi hx
      have him : i < m := by
        rcases Nat.lt_or_ge i m with z | z
        · exact z
        · rw [itr_down h2.symm i z] at hi; cases hi
      obtain ⟨y, y1, y2⟩ := h3 i him
      rw [hi] at y1
      cases y1
      rw [(hA x).mpr hx] at y2
      cases y2
    -- a's root
    have hroot : ∃ r0, trD par r0 a ∧ par r0 = none := by
      obtain ⟨k, k1, k2⟩ := gc_least (P := fun k => itr par (some a) k = none) hta
      cases k with
      | zero => cases k2.1
      | succ k =>
        cases hz : itr par (some a) k with
        | none => exact absurd hz (k2.2 k (by omega))
        | some r0 => exact ⟨r0, ⟨k, hz⟩, by rw [← itr_s hz]; exact k2.1⟩
    obtain ⟨r0, r1, r2⟩ := hroot
    intro hc
    obtain ⟨i, hi⟩ := (tr_top h r2 hc).mp r1
    exact hno i r0 hi r1
  | some t =>
    have htA : trD par t a := by
      rcases h4 with q | q | ⟨t2, q1, q2⟩
      · rw [q, htb] at h2; cases h2
      · rw [q] at h2; cases h2
      · rw [q1] at h2; cases h2; exact (hA t).mp q2
    obtain ⟨m2, g1, g3, g4, g5⟩ := wm_en_is (par := par) (eup := eup) (t := t) 10 (some a) S1
    obtain ⟨mt, hmt⟩ := htA
    have hm2 : itr par (some a) m2 = some t := by
      have hmt10 : mt < 10 := by
        rcases Nat.lt_or_ge mt 10 with z | z
        · exact z
        · rw [itr_down hta mt z] at hmt; cases hmt
      have hle : m2 ≤ mt := by
        rcases Nat.lt_or_ge mt m2 with z | z
        · obtain ⟨x, x1, x2⟩ := g3 mt z
          rw [hmt] at x1; cases x1; exact absurd rfl x2
        · exact z
      rcases g4 with q | q | q
      · omega
      · rw [itr_down q mt hle] at hmt; cases hmt
      · exact q
    have eF : ∀ x y, eup x = some y → F y := fun x y hxy => by
      rcases h.1 x with q | ⟨u, e, _, _, _, c4, c5, _⟩
      · rw [q.2] at hxy; cases hxy
      · rw [c4] at hxy; cases hxy; exact c5
    show (∀ x, wm_en par eup t 10 (some a) S1 x = true → F x) ∧ gq_con U V (fun x => wm_en par eup t 10 (some a) S1 x = true) a b ∧ ∀ x, wm_en par eup t 10 (some a) S1 x = true → ¬ gq_con U V (fun y => F y ∧ y ≠ x) a b
    refine ⟨fun y hy => ?_, ?_, fun y hy => ?_⟩
    · rcases (g5 y).mp hy with q | ⟨i, x, _, _, q3⟩
      · rcases (h5 y).mp q with q | ⟨i, x, _, _, q3⟩
        · cases q
        · exact eF x y q3
      · exact eF x y q3
    · have c1 : gq_con U V (fun x => wm_en par eup t 10 (some a) S1 x = true) a t := itr_con h _ m2 t hm2 (fun i y e hi hy he => (g5 e).mpr (Or.inr ⟨i, y, hi, hy, he⟩))
      have c2 : gq_con U V (fun x => wm_en par eup t 10 (some a) S1 x = true) b t := itr_con h _ m t h2.symm (fun i y e hi hy he => (g5 e).mpr (Or.inl ((h5 e).mpr (Or.inr ⟨i, y, hi, hy, he⟩))))
      exact gq_tr c1 (gq_sy c2)
    · intro hc
      rcases (g5 y).mp hy with q | ⟨i, x, q1, q2, q3⟩
      · rcases (h5 y).mp q with q | ⟨i, x, q1, q2, q3⟩
        · cases q
        · -- x is on b's line ahead of t: a does not hang below x
          have hxa : ¬ trD par x a := fun z => by
            obtain ⟨x2, z1, z2⟩ := h3 i q1
            rw [q2] at z1; cases z1
            rw [(hA x).mpr z] at z2; cases z2
          exact hxa ((tr_cut h q3 hc).mpr ⟨i, q2⟩)
      · -- x is on a's line ahead of t: b does not hang below x
        obtain ⟨j, hj⟩ := (tr_cut h q3 hc).mp ⟨i, q2⟩
        -- x comes at or behind t on b's line
        have hjm : m ≤ j := by
          rcases Nat.lt_or_ge j m with z | z
          · obtain ⟨x2, z1, z2⟩ := h3 j z
            rw [hj] at z1; cases z1
            rw [(hA x).mpr ⟨i, q2⟩] at z2; cases z2
          · exact z
        have e1 : itr par (some t) (j - m) = some x := by rw [h2, itr_add, show m + (j - m) = j by omega]; exact hj
        have e2 : itr par (some x) (m2 - i - 1 + 1) = some t := by rw [← q2, itr_add, show i + (m2 - i - 1 + 1) = m2 by omega]; exact hm2
        have l1 := itr_lt hd _ _ _ e2
        cases hjm2 : j - m with
        | zero => rw [hjm2] at e1; cases e1; omega
        | succ k =>
          rw [hjm2] at e1
          have l2 := itr_lt hd _ _ _ e1
          omega
end WY
