/-! THE SEARCH in pure words: what it has reached, in order; a row of moves; a set that is closed -/
def gs (F : Nat → Nat) : Nat → Nat
  | 0 => 0
  | k + 1 => gs F k + F k
theorem gs_congr {F G : Nat → Nat} : ∀ {k}, (∀ f, f < k → F f = G f) → gs F k = gs G k
  | 0, _ => rfl
  | k + 1, h => by rw [gs, gs, gs_congr (fun f hf => h f (by omega)), h k (by omega)]
theorem gs_mono {F G : Nat → Nat} : ∀ {k}, (∀ f, f < k → F f ≤ G f) → gs F k ≤ gs G k
  | 0, _ => Nat.le_refl 0
  | k + 1, h => by
    have h1 := gs_mono (F := F) (G := G) (k := k) (fun f hf => h f (by omega))
    have h2 := h k (by omega)
    rw [gs, gs]
    omega
theorem gs_bump {F G : Nat → Nat} {i : Nat} (hi : F i = G i + 1) : ∀ {k}, i < k → (∀ f, f < k → f ≠ i → F f = G f) → gs F k = gs G k + 1
  | 0, h, _ => absurd h (Nat.not_lt_zero i)
  | k + 1, h, hx => by
    rw [gs, gs]
    by_cases e : i = k
    · subst e
      rw [hi, gs_congr (fun f hf => hx f (by omega) (by omega))]
      omega
    · rw [gs_bump (F := F) (G := G) hi (k := k) (by omega) (fun f hf => hx f (by omega)), hx k (by omega) (Ne.symm e)]
      omega
theorem gs_parts {P : Nat → Prop} {q : Nat → Option Nat} {k : Nat} (h : ∀ e, P e → ∃ i, i < k ∧ q e = some i) : ∀ M, gs (fun f => gc_n (fun e => q e = some f ∧ P e) M) k = gc_n P M
  | 0 => by
    have : ∀ k, gs (fun _ => 0) k = 0 := by
      intro k
      induction k with
      | zero => rfl
      | succ k ih => rw [gs, ih]
    exact this k
  | M + 1 => by
    have ih := gs_parts (P := P) (q := q) (k := k) h M
    by_cases hP : P M
    · obtain ⟨i, hi, hq⟩ := h M hP
      rw [gc_s1 hP, ← ih]
      refine gs_bump (i := i) ?_ hi (fun f hf hne => ?_)
      · exact gc_s1 (P := fun e => q e = some i ∧ P e) ⟨hq, hP⟩
      · exact gc_s0 (P := fun e => q e = some f ∧ P e) (fun z => hne (by have := hq.symm.trans z.1; exact (Option.some.inj this).symm))
    · rw [gc_s0 hP, ← ih]
      exact gs_congr (fun f hf => gc_s0 (P := fun e => q e = some f ∧ P e) (fun z => hP z.2))
theorem nd_inj : ∀ (L : List Nat), L.Nodup → ∀ a b x : Nat, L[a]? = some x → L[b]? = some x → a = b
  | [], _, a, b, x, h, _ => by simp at h
  | y :: L, hn, a, b, x, h1, h2 => by
    obtain ⟨n1, n2⟩ := List.nodup_cons.mp hn
    cases a with
    | zero =>
      cases b with
      | zero => rfl
      | succ b =>
        rw [List.getElem?_cons_zero] at h1
        rw [List.getElem?_cons_succ] at h2
        cases h1
        exact absurd (List.mem_of_getElem? h2) n1
    | succ a =>
      rw [List.getElem?_cons_succ] at h1
      cases b with
      | zero =>
        rw [List.getElem?_cons_zero] at h2
        cases h2
        exact absurd (List.mem_of_getElem? h1) n1
      | succ b =>
        rw [List.getElem?_cons_succ] at h2
        rw [nd_inj L n2 a b x h1 h2]
section BF
variable {U V : Nat → Nat} {k : Nat} {p : Nat → Option Nat} {fx : Nat → Prop} {w : Nat}
/-- CLOSED: no room for w -/
theorem gp_closed {n M : Nat} (hM : ∀ e, p e ≠ none → e < M) (hwM : w < M) (hUV : ∀ e, p e ≠ none ∨ e = w → U e < n ∧ V e < n) (hw : p w = none) (hok : ∀ e i, p e = some i → i < k) (R : Nat → Prop) (hR : ∀ e, R e → p e ≠ none) (hfx : ∀ e, fx e → p e ≠ none) (hcl : ∀ z, R z ∨ z = w → ∀ f, f < k → gh_in U V (fun x => gp_F p f x ∧ (R x ∨ fx x)) z) : ¬ gp_fix U V k (fun e => p e ≠ none ∨ e = w) fx p := by
  rintro ⟨p2, h2, hd, hfix⟩
  have hdom : ∀ e, R e ∨ e = w ∨ fx e → p e ≠ none ∨ e = w := fun e he => by
    rcases he with z | z | z
    · exact Or.inl (hR e z)
    · exact Or.inr z
    · exact Or.inl (hfx e z)
  have e1 : ∀ e, R e ∨ e = w ∨ fx e → ∃ i, i < k ∧ p2 e = some i := fun e he => by
    have := (hd e).mp (hdom e he)
    cases hq : p2 e with
    | none => exact absurd hq this
    | some i => exact ⟨i, h2.1 e i hq, rfl⟩
  have e2 : ∀ e, R e ∨ fx e → ∃ i, i < k ∧ p e = some i := fun e he => by
    have hne : p e ≠ none := he.elim (hR e) (hfx e)
    cases hq : p e with
    | none => exact absurd hq hne
    | some i => exact ⟨i, hok e i hq, rfl⟩
  have s1 := gs_parts (k := k) e1 M
  have s2 := gs_parts (k := k) e2 M
  have hle : gs (fun f => gc_n (fun e => p2 e = some f ∧ (R e ∨ e = w ∨ fx e)) M) k ≤ gs (fun f => gc_n (fun e => p e = some f ∧ (R e ∨ fx e)) M) k := by
    refine gs_mono fun f hf => ?_
    refine gf_rank (U := U) (V := V) (n := n) (gf_sub (h2.2 f hf) (fun e he => he.1)) (fun e he => ?_) (fun e he => ?_) (fun e he => (hUV e (hdom e he.2)).1) (fun e he => (hUV e (hdom e he.2)).2) (fun e he => (hUV e (Or.inl (by rw [he.1]; exact fun z => by cases z))).1) (fun e he => (hUV e (Or.inl (by rw [he.1]; exact fun z => by cases z))).2) (fun e he => ?_)
    · rcases hdom e he.2 with z | z
      · exact hM e z
      · rw [z]; exact hwM
    · exact hM e (by rw [he.1]; exact fun z => by cases z)
    · rcases he.2 with z | z | z
      · exact hcl e (Or.inl z) f hf
      · exact hcl e (Or.inr z) f hf
      · exact gq_ed (X := fun x => p x = some f ∧ (R x ∨ fx x)) ⟨by rw [← hfix e z]; exact he.1, Or.inr z⟩
  have hout : gc_n (fun e => R e ∨ e = w ∨ fx e) M = gc_n (fun e => R e ∨ fx e) M + 1 := by
    refine gc_out (w := w) (Or.inr (Or.inl rfl)) (fun z => ?_) hwM (fun v _ hne => ⟨fun z => ?_, fun z => ?_⟩)
    · exact z.elim (fun y => hR w y hw) (fun y => hfx w y hw)
    · rcases z with z | z | z
      · exact Or.inl z
      · exact absurd z hne
      · exact Or.inr z
    · rcases z with z | z
      · exact Or.inl z
      · exact Or.inr (Or.inr z)
  omega
def bf_D (U V : Nat → Nat) (p : Nat → Option Nat) (fx : Nat → Prop) (L : List Nat) (f z : Nat) : Prop := gh_in U V (fun x => gp_F p f x ∧ (x ∈ L ∨ fx x)) z
def bf_ok (U V : Nat → Nat) (p : Nat → Option Nat) (fx : Nat → Prop) (w : Nat) (L : List Nat) (pr : Nat → Nat) : Prop := L[0]? = some w ∧ L.Nodup ∧ ∀ j y, L[j + 1]? = some y → ∃ i f, i ≤ j ∧ L[i]? = some (pr y) ∧ p y = some f ∧ ¬ fx y ∧ ¬ gh_in U V (fun x => gp_F p f x ∧ x ≠ y) (pr y) ∧ ∀ i2 z2, i2 < i → L[i2]? = some z2 → gh_in U V (fun x => gp_F p f x ∧ x ≠ y) z2
theorem bf_D_mono {L L2 : List Nat} {f z : Nat} (h : bf_D U V p fx L f z) (hs : ∀ x, x ∈ L → x ∈ L2) : bf_D U V p fx L2 f z := gq_mono (fun x hx => ⟨hx.1, hx.2.elim (fun y => Or.inl (hs x y)) Or.inr⟩) h
theorem bf_init : bf_ok U V p fx w [w] (fun _ => w) := ⟨rfl, by simp, fun j y h => by simp at h⟩
theorem bf_push {L : List Nat} {pr : Nat → Nat} {y z f i : Nat} (h : bf_ok U V p fx w L pr) (hy : y ∉ L) (hfy : ¬ fx y) (hp : p y = some f) (hz : L[i]? = some z) (hr : ¬ gh_in U V (fun x => gp_F p f x ∧ x ≠ y) z) (hD : ∀ i2 z2, i2 < i → L[i2]? = some z2 → bf_D U V p fx L f z2) : bf_ok U V p fx w (L ++ [y]) (va_up pr y z) := by
  obtain ⟨h1, h2, h3⟩ := h
  have hlen : ∀ {j x}, L[j]? = some x → (L ++ [y])[j]? = some x := fun {j x} hj => by
    rw [List.getElem?_append_left (List.getElem?_eq_some_iff.mp hj).1]; exact hj
  refine ⟨hlen h1, ?_, fun j y2 hj => ?_⟩
  · rw [List.nodup_append]
    refine ⟨h2, by simp, fun a ha b hb => ?_⟩
    simp at hb
    subst hb
    exact fun e => hy (e ▸ ha)
  · by_cases hjl : j + 1 < L.length
    · rw [List.getElem?_append_left hjl] at hj
      have hy2 : y2 ≠ y := fun e => hy (e ▸ List.mem_of_getElem? hj)
      obtain ⟨i2, f2, c1, c2, c3, c4, c5, c6⟩ := h3 j y2 hj
      refine ⟨i2, f2, c1, by rw [va_up_ne _ _ hy2]; exact hlen c2, c3, c4, by rw [va_up_ne _ _ hy2]; exact c5, fun i3 z3 hi3 hz3 => c6 i3 z3 hi3 ?_⟩
      rwa [List.getElem?_append_left (by omega)] at hz3
    · have hj2 : j + 1 = L.length := by
        have := (List.getElem?_eq_some_iff.mp hj).1
        simp at this
        omega
      rw [List.getElem?_append_right (by omega), hj2] at hj
      simp at hj
      subst hj
      have hil := (List.getElem?_eq_some_iff.mp hz).1
      refine ⟨i, f, by omega, by rw [va_up_self]; exact hlen hz, hp, hfy, by rw [va_up_self]; exact hr, fun i3 z3 hi3 hz3 => ?_⟩
      rw [List.getElem?_append_left (by omega)] at hz3
      refine gq_mono (fun x hx => ⟨hx.1, fun e => ?_⟩) (hD i3 z3 hi3 hz3)
      subst e
      exact hx.2.elim hy hfy
/-- the row of moves from z back to w -/
def chn (pr : Nat → Nat) (w : Nat) : List Nat → Prop
  | [] => False
  | [z] => z = w
  | z :: y :: r => z ≠ w ∧ y = pr z ∧ chn pr w (y :: r)
theorem bf_path {L : List Nat} {pr : Nat → Nat} (h : bf_ok U V p fx w L pr) : ∀ (i z : Nat), L[i]? = some z → ∃ r : List Nat, (∀ y, y ∈ z :: r → ∃ i2 : Nat, i2 ≤ i ∧ L[i2]? = some y) ∧ chn pr w (z :: r) ∧ (z :: r).Nodup ∧ (∀ y, y ∈ z :: r → y = w ∨ (p y ≠ none ∧ ¬ fx y)) ∧ ∀ G : Nat → Prop, ¬ gh_in U V G z → (∀ i2 z2 : Nat, i2 < i → L[i2]? = some z2 → gh_in U V G z2) → gp_pth U V p G (z :: r) := by
  intro i
  induction i using Nat.strongRecOn with
  | ind i ih =>
    intro z hz
    obtain ⟨h1, h2, h3⟩ := id h
    cases i with
    | zero =>
      have hzw : z = w := Option.some.inj (hz.symm.trans h1)
      subst hzw
      refine ⟨[], fun y hy => ⟨0, Nat.le_refl 0, ?_⟩, rfl, by simp, fun y hy => Or.inl (by simpa using hy), fun G hG _ => ⟨hG, fun y hy => (by cases hy), fun z => absurd rfl z⟩⟩
      have : y = z := by simpa using hy
      rw [this]; exact hz
    | succ j =>
      obtain ⟨i2, f, c1, c2, c3, c4, c5, c6⟩ := h3 j z hz
      obtain ⟨r, d1, d2, d3, d4, d5⟩ := ih i2 (by omega) (pr z) c2
      have hinj : ∀ a b x : Nat, L[a]? = some x → L[b]? = some x → a = b := fun a b x ha hb => nd_inj L h2 a b x ha hb
      have hzw : z ≠ w := fun e => by
        subst e
        have := hinj _ _ _ h1 hz
        omega
      have hznot : z ∉ pr z :: r := fun hm => by
        obtain ⟨i3, e1, e2⟩ := d1 z hm
        have := hinj _ _ _ e2 hz
        omega
      refine ⟨pr z :: r, fun y hy => ?_, ⟨hzw, rfl, d2⟩, List.nodup_cons.mpr ⟨hznot, d3⟩, fun y hy => ?_, fun G hG hE => ⟨hG, fun y hy => ?_, fun _ => ⟨f, c3, d5 _ c5 c6⟩⟩⟩
      · rcases List.mem_cons.mp hy with e | e
        · rw [e]; exact ⟨j + 1, Nat.le_refl _, hz⟩
        · obtain ⟨i3, e1, e2⟩ := d1 y e
          exact ⟨i3, by omega, e2⟩
      · rcases List.mem_cons.mp hy with e | e
        · rw [e]; exact Or.inr ⟨by rw [c3]; exact fun q => (by cases q), c4⟩
        · exact d4 y e
      · obtain ⟨i3, e1, e2⟩ := d1 y hy
        exact hE i3 y (by omega) e2
/-- the moves along a row -/
def shp : List Nat → (Nat → Option Nat) → Option Nat → (Nat → Option Nat)
  | [], p, _ => p
  | z :: r, p, t => shp r (va_up p z t) (p z)
theorem shp_ok {pr : Nat → Nat} : ∀ (r : List Nat) (z : Nat) (p : Nat → Option Nat) (t : Nat), gp_ok U V k p → t < k → p w = none → chn pr w (z :: r) → (z :: r).Nodup → gp_pth U V p (gp_F p t) (z :: r) → gp_ok U V k (shp (z :: r) p (some t)) ∧ (∀ e, (shp (z :: r) p (some t) e ≠ none ↔ p e ≠ none ∨ e = w)) ∧ ∀ e, e ∉ z :: r → shp (z :: r) p (some t) e = p e
  | [], z, p, t, hok, ht, hw, hc, hn, hp => by
    have hzw : z = w := hc
    subst hzw
    refine ⟨gp_mv_ok hok ht hp.1, fun e => ?_, fun e he => ?_⟩
    · show va_up p z (some t) e ≠ none ↔ _
      by_cases q : e = z
      · subst q; rw [va_up_self]; simp
      · rw [va_up_ne _ _ q]; simp [q]
    · show va_up p z (some t) e = p e
      exact va_up_ne _ _ (fun q => he (by rw [q]; exact List.mem_cons_self))
  | y :: r, z, p, t, hok, ht, hw, hc, hn, hp => by
    obtain ⟨hzw, hy, hc2⟩ := hc
    obtain ⟨hz, hn2⟩ := List.nodup_cons.mp hn
    obtain ⟨i, hi, hik, h1, h2⟩ := gp_step hok ht hz (by simp) hp
    have hw2 : gp_mv p z t w = none := by rw [gp_mv, va_up_ne _ _ (Ne.symm hzw)]; exact hw
    obtain ⟨a1, a2, a3⟩ := shp_ok r y (gp_mv p z t) i h1 hik hw2 hc2 hn2 h2
    have e1 : shp (z :: y :: r) p (some t) = shp (y :: r) (gp_mv p z t) (some i) := by
      rw [shp, hi]; rfl
    rw [e1]
    refine ⟨a1, fun e => ?_, fun e he => ?_⟩
    · rw [a2 e]
      by_cases q : e = z
      · subst q; rw [gp_mv, va_up_self, hi]; simp
      · rw [gp_mv, va_up_ne _ _ q]
    · have q : e ≠ z := fun q => he (by rw [q]; exact List.mem_cons_self)
      rw [a3 e (fun q2 => he (List.mem_cons_of_mem _ q2)), gp_mv, va_up_ne _ _ q]
end BF
