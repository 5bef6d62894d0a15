/-! A PACKING'S STATE in pure words: places and trees say the same; taking an edge out, putting one in -/
def pqI (U V : Nat → Nat) (k : Nat) (q : pq) : Prop := (∀ e i, q.1 e = some i → i < k) ∧ (∀ e, q.1 e ≠ none → e < 24 ∧ U e < 10 ∧ V e < 10) ∧ ∀ i, i < k → tr_ok U V (q.2.1 i) (q.2.2 i) (gp_F q.1 i)
theorem gp_F_rm {p : Nat → Option Nat} {m i : Nat} : gp_F (va_up p m none) i = (fun x => gp_F p i x ∧ x ≠ m) := gh_eq fun e => by
  by_cases h : e = m
  · subst h; simp [gp_F, va_up_self]
  · simp [gp_F, va_up_ne _ _ h, h]
section PQ
variable {U V : Nat → Nat} {k : Nat} {q : pq}
theorem pqI_ok (h : pqI U V k q) : gp_ok U V k q.1 := ⟨h.1, fun i hi => tr_forest (h.2.2 i hi)⟩
theorem pqI_0 : pqI U V k pq0 := ⟨fun e i h => (by cases h), fun e h => absurd rfl h, fun i _ => by
  have : gp_F pq0.1 i = (fun _ => False) := gh_eq fun e => ⟨fun h => (by cases h), False.elim⟩
  rw [this]; exact tr_none⟩
theorem pq_rem_ok (h : pqI U V k q) (m : Nat) : pqI U V k (pq_rem q m) ∧ (pq_rem q m).1 = va_up q.1 m none := by
  unfold pq_rem
  cases hm : q.1 m with
  | none =>
    refine ⟨h, ?_⟩
    show q.1 = _
    funext e
    by_cases he : e = m
    · subst he; rw [va_up_self, hm]
    · rw [va_up_ne _ _ he]
  | some f =>
    have hf := h.1 m f hm
    have ht := h.2.2 f hf
    obtain ⟨v, hv⟩ := ht.2.1 m hm
    have hul : ∀ x : Nat → Option Nat, ul (q.2.2 f) x m = va_up x v none := fun x => by
      funext y
      by_cases c : y = v
      · subst c; rw [va_up_self]; exact if_pos hv
      · rw [va_up_ne _ _ c]; exact if_neg (fun z => c (ht.2.2.1 _ _ _ z hv))
    refine ⟨⟨fun e i he => ?_, fun e he => ?_, fun i hi => ?_⟩, rfl⟩
    · have he : va_up q.1 m none e = some i := he
      by_cases q2 : e = m
      · subst q2; rw [va_up_self] at he; cases he
      · rw [va_up_ne _ _ q2] at he; exact h.1 e i he
    · have he : va_up q.1 m none e ≠ none := he
      by_cases q2 : e = m
      · subst q2; rw [va_up_self] at he; exact absurd rfl he
      · rw [va_up_ne _ _ q2] at he; exact h.2.1 e he
    · show tr_ok U V (va_up q.2.1 f (ul (q.2.2 f) (q.2.1 f) m) i) (va_up q.2.2 f (ul (q.2.2 f) (q.2.2 f) m) i) (gp_F (va_up q.1 m none) i)
      rw [gp_F_rm, hul, hul]
      by_cases q2 : i = f
      · subst q2
        rw [va_up_self, va_up_self]
        exact tr_unlink ht hv
      · rw [va_up_ne _ _ q2, va_up_ne _ _ q2]
        have : (fun x => gp_F q.1 i x ∧ x ≠ m) = gp_F q.1 i := gh_eq fun x => ⟨fun z => z.1, fun z => ⟨z, fun e => by
          subst e
          have z : q.1 x = some i := z
          rw [hm] at z
          exact q2 (Option.some.inj z).symm⟩⟩
        rw [this]
        exact h.2.2 i hi
theorem pq_put_ok (h : pqI U V k q) {m t : Nat} (hm : q.1 m = none) (h24 : m < 24) (hU : U m < 10) (hV : V m < 10) (ht : t < k) (hn : ¬ gh_in U V (gp_F q.1 t) m) : pqI U V k (pq_put U V q m (some t)) ∧ (pq_put U V q m (some t)).1 = va_up q.1 m (some t) := by
  refine ⟨⟨fun e i he => ?_, fun e he => ?_, fun i hi => ?_⟩, rfl⟩
  · have he : va_up q.1 m (some t) e = some i := he
    by_cases q2 : e = m
    · subst q2; rw [va_up_self] at he; cases he; exact ht
    · rw [va_up_ne _ _ q2] at he; exact h.1 e i he
  · have he : va_up q.1 m (some t) e ≠ none := he
    by_cases q2 : e = m
    · subst q2; exact ⟨h24, hU, hV⟩
    · rw [va_up_ne _ _ q2] at he; exact h.2.1 e he
  · show tr_ok U V (va_up q.2.1 t (lk 10 (q.2.1 t, q.2.2 t) (some (V m)) (some (U m)) (some m)).1 i) (va_up q.2.2 t (lk 10 (q.2.1 t, q.2.2 t) (some (V m)) (some (U m)) (some m)).2 i) (gp_F (gp_mv q.1 m t) i)
    by_cases q2 : i = t
    · subst q2
      rw [va_up_self, va_up_self, gp_F_mv_t]
      exact tr_link 10 _ _ _ _ _ _ (h.2.2 i hi) hV hU (fun z => by rw [show q.1 m = some i from z] at hm; cases hm) (Or.inl ⟨rfl, rfl⟩) hn (itr_ten (h.2.2 i hi) hV)
    · rw [va_up_ne _ _ q2, va_up_ne _ _ q2, gp_F_mv_o q2]
      have : (fun x => gp_F q.1 i x ∧ x ≠ m) = gp_F q.1 i := gh_eq fun x => ⟨fun z => z.1, fun z => ⟨z, fun e => by
        subst e
        have z : q.1 x = some i := z
        rw [hm] at z
        cases z⟩⟩
      rw [this]
      exact h.2.2 i hi
theorem pq_mv_ok (h : pqI U V k q) {m t : Nat} (h24 : m < 24) (hU : U m < 10) (hV : V m < 10) (ht : t < k) (hn : ¬ gh_in U V (gp_F q.1 t) m) : pqI U V k (pq_put U V (pq_rem q m) m (some t)) ∧ (pq_put U V (pq_rem q m) m (some t)).1 = va_up q.1 m (some t) := by
  obtain ⟨h1, h2⟩ := pq_rem_ok h m
  obtain ⟨g1, g2⟩ := pq_put_ok (m := m) (t := t) h1 (by rw [h2, va_up_self]) h24 hU hV ht (by
    rw [h2, gp_F_rm]
    exact fun z => hn (gq_mono (fun x hx => hx.1) z))
  exact ⟨g1, by rw [g2, h2, bx_uu]⟩
end PQ
/-! THE SEARCH -/
def fxP (fx : Nat → Bool) (p : Nat → Option Nat) : Nat → Prop := fun x => fx x = true ∧ p x ≠ none
def frm_of (w z : Nat) : Option Nat := if z = w then none else some z
def sI (U V : Nat → Nat) (p : Nat → Option Nat) (fx : Nat → Bool) (w : Nat) (que : List Nat) (fol : Nat → Option Nat) : Prop := ∃ pr, bf_ok U V p (fxP fx p) w (w :: que) pr ∧ ∀ y, y ∈ que → fol y = frm_of w (pr y)
def sJ (U V : Nat → Nat) (p : Nat → Option Nat) (fx : Nat → Bool) (w : Nat) (s : sq) : Prop := sI U V p fx w s.2.1 s.2.2 ∧ ∀ x, s.1 x = true ↔ x ∈ s.2.1
section SE
variable {U V : Nat → Nat} {k : Nat} {p : Nat → Option Nat} {fx : Nat → Bool} {w : Nat} {ps : Nat → Bool}
theorem bf_mem {L : List Nat} {pr : Nat → Nat} {fxx : Nat → Prop} (h : bf_ok U V p fxx w (w :: L) pr) : ∀ y, y ∈ L → ∃ f, p y = some f ∧ ¬ fxx y := by
  intro y hy
  obtain ⟨j, hj⟩ := List.mem_iff_getElem?.mp hy
  obtain ⟨i, f, _, _, c3, c4, _⟩ := h.2.2 j y (by rw [List.getElem?_cons_succ]; exact hj)
  exact ⟨f, c3, c4⟩
theorem ap_get {L ex : List Nat} {i z : Nat} (h : L[i]? = some z) : (L ++ ex)[i]? = some z := by
  rw [List.getElem?_append_left (List.getElem?_eq_some_iff.mp h).1]; exact h
theorem bPR_le {h h2 : Nat} {fxx : Nat → Prop} {L : List Nat} (g : bPR U V k p fxx L h) (hle : h2 ≤ h) : bPR U V k p fxx L h2 := fun i z hi hz f hf => g i z (by omega) hz f hf
theorem rc_lp_ok (hd : ∀ e, p e ≠ none → e < 24) (hw : p w = none) {T R : Nat → Bool} {z f i : Nat} (hTF : ∀ x, T x = true → p x = some f) (hTfx : ∀ x, T x = true → fx x = false) (hTR : ∀ x, T x = true → R x = false) (hTr : ∀ x, T x = true → ¬ gh_in U V (fun v => gp_F p f v ∧ v ≠ x) z) (hf : f < k) : ∀ n e que fol, e + n = 24 → sI U V p fx w que fol → (w :: que)[i]? = some z → bPR U V k p (fxP fx p) (w :: que) i → (∀ x, x ∈ que ↔ R x = true ∨ (T x = true ∧ x < e)) → ∀ r, rc_lp T (frm_of w z) n e que fol = r → sI U V p fx w r.1 r.2 ∧ (∃ ex, r.1 = que ++ ex) ∧ (∀ x, x ∈ r.1 ↔ R x = true ∨ T x = true) ∧ bPR U V k p (fxP fx p) (w :: r.1) i
  | 0, e, que, fol, he, hs, hz, hb, hx, r, hr => by
    subst hr
    refine ⟨hs, ⟨[], by simp [rc_lp]⟩, fun x => ?_, hb⟩
    show x ∈ que ↔ _
    rw [hx x]
    refine ⟨fun q => q.elim Or.inl (fun q => Or.inr q.1), fun q => q.elim Or.inl (fun q => Or.inr ⟨q, ?_⟩)⟩
    have := hd x (by rw [hTF x q]; exact fun z => by cases z)
    omega
  | n + 1, e, que, fol, he, hs, hz, hb, hx, r, hr => by
    obtain ⟨pr, h1, h2⟩ := hs
    rw [rc_lp] at hr
    by_cases hT : T e = true
    · have hne : e ∉ que := fun q => by
        rcases (hx e).mp q with z | z
        · rw [hTR e hT] at z; cases z
        · omega
      have hwn : w ∉ que := (List.nodup_cons.mp h1.2.1).1
      have hqn : que.Nodup := (List.nodup_cons.mp h1.2.1).2
      have hew : e ≠ w := fun q => by rw [q] at hT; rw [hTF w hT] at hw; cases hw
      have hlen : que.length < 24 := by
        have := nd_le (n := 24) (List.nodup_cons.mpr ⟨hne, hqn⟩) (fun x hx2 => by
          rcases List.mem_cons.mp hx2 with z | z
          · rw [z]; omega
          · obtain ⟨g, g1, _⟩ := bf_mem h1 x z
            exact hd x (by rw [g1]; exact fun z => by cases z))
        simp at this
        omega
      rw [if_pos ⟨hT, hlen⟩] at hr
      have hnL : e ∉ w :: que := fun q => (List.mem_cons.mp q).elim hew hne
      have hb2 := bf_push (y := e) (z := z) (f := f) (i := i) h1 hnL (fun q => by have q1 : fx e = true := q.1; rw [hTfx e hT] at q1; cases q1) (hTF e hT) hz (hTr e hT) (fun i2 z2 hi2 hz2 => hb i2 z2 hi2 hz2 f hf)
      have hs2 : sI U V p fx w (que ++ [e]) (va_up fol e (frm_of w z)) := ⟨va_up pr e z, hb2, fun y hy => by
        by_cases q : y = e
        · subst q; rw [va_up_self, va_up_self]
        · rw [va_up_ne _ _ q, va_up_ne _ _ q]
          rcases List.mem_append.mp hy with z | z
          · exact h2 y z
          · exact absurd (by simpa using z) q⟩
      have hzl := (List.getElem?_eq_some_iff.mp hz).1
      obtain ⟨a1, ⟨ex, a2⟩, a3, a4⟩ := rc_lp_ok hd hw hTF hTfx hTR hTr hf n (e + 1) (que ++ [e]) _ (by omega) hs2 (ap_get (ex := [e]) hz) (bPR_mono (y := e) (by omega) hb) (fun x => by
        rw [List.mem_append, hx x]
        constructor
        · rintro ((q | q) | q)
          · exact Or.inl q
          · exact Or.inr ⟨q.1, by omega⟩
          · have : x = e := by simpa using q
            subst this
            exact Or.inr ⟨hT, by omega⟩
        · rintro (q | q)
          · exact Or.inl (Or.inl q)
          · by_cases c : x = e
            · exact Or.inr (by simp [c])
            · exact Or.inl (Or.inr ⟨q.1, by omega⟩)) r hr
      exact ⟨a1, ⟨e :: ex, by rw [a2]; simp⟩, a3, a4⟩
    · rw [if_neg (fun q => hT q.1)] at hr
      exact rc_lp_ok hd hw hTF hTfx hTR hTr hf n (e + 1) que fol (by omega) ⟨pr, h1, h2⟩ hz hb (fun x => by
        rw [hx x]
        constructor
        · rintro (q | q)
          · exact Or.inl q
          · exact Or.inr ⟨q.1, by omega⟩
        · rintro (q | q)
          · exact Or.inl q
          · by_cases c : x = e
            · rw [c] at q; exact absurd q.1 hT
            · exact Or.inr ⟨q.1, by omega⟩) r hr
theorem rc_ok (hd : ∀ e, p e ≠ none → e < 24) (hw : p w = none) {S : Nat → Bool} {z f i : Nat} {s : sq} (hf : f < k) (hrg : rg_is U V (gp_F p f) (U z) (V z) (some S)) (hs : sJ U V p fx w s) (hz : (w :: s.2.1)[i]? = some z) (hb : bPR U V k p (fxP fx p) (w :: s.2.1) i) (r : sq) (hr : rc (fun x => (S x && !fx x) && !s.1 x) (frm_of w z) s = r) : sJ U V p fx w r ∧ (∃ ex, r.2.1 = s.2.1 ++ ex) ∧ bPR U V k p (fxP fx p) (w :: r.2.1) i ∧ bf_D U V p (fxP fx p) (w :: r.2.1) f z := by
  obtain ⟨r1, r2, r3⟩ := hrg
  subst hr
  have hT : ∀ x, ((S x && !fx x) && !s.1 x) = true → S x = true ∧ fx x = false ∧ s.1 x = false := fun x hx => by simpa [and_assoc] using hx
  obtain ⟨a1, a2, a3, a4⟩ := rc_lp_ok (T := fun x => (S x && !fx x) && !s.1 x) (R := s.1) (f := f) hd hw (fun x hx => r1 x (hT x hx).1) (fun x hx => (hT x hx).2.1) (fun x hx => (hT x hx).2.2) (fun x hx => r3 x (hT x hx).1) hf 24 0 s.2.1 s.2.2 rfl hs.1 hz hb (fun x => by rw [hs.2 x]; simp) _ rfl
  refine ⟨⟨a1, fun x => ?_⟩, a2, a4, gq_mono (fun x hx => ⟨r1 x hx, ?_⟩) r2⟩
  · show (s.1 x || ((S x && !fx x) && !s.1 x)) = true ↔ _
    rw [Bool.or_eq_true]
    exact (a3 x).symm
  · have hx : S x = true := hx
    by_cases c1 : fx x = true
    · exact Or.inr ⟨c1, by rw [show p x = some f from r1 x hx]; exact fun z => by cases z⟩
    · refine Or.inl (List.mem_cons_of_mem _ ((a3 x).mpr ?_))
      by_cases c2 : s.1 x = true
      · exact Or.inl c2
      · exact Or.inr (by simp [hx, c1, c2])
def rfQ (U V : Nat → Nat) (k : Nat) (p : Nat → Option Nat) (fx : Nat → Bool) (w z i : Nat) (que : List Nat) (r : Option Nat × sq) : Prop := (∃ ex, r.2.2.1 = que ++ ex) ∧ sJ U V p fx w r.2 ∧ bPR U V k p (fxP fx p) (w :: r.2.2.1) i ∧ (r.1 = none → ∀ g, g < k → bf_D U V p (fxP fx p) (w :: r.2.2.1) g z) ∧ ∀ t, r.1 = some t → t < k ∧ ¬ gh_in U V (gp_F p t) z
theorem rf_lp_ok {q : pq} (hI : pqI U V k q) (hw : q.1 w = none) {z i : Nat} (hU : U z < 10) (hV : V z < 10) : ∀ n f s, f + n = k → sJ U V q.1 fx w s → (w :: s.2.1)[i]? = some z → bPR U V k q.1 (fxP fx q.1) (w :: s.2.1) i → (∀ g, g < f → bf_D U V q.1 (fxP fx q.1) (w :: s.2.1) g z) → rfQ U V k q.1 fx w z i s.2.1 (rf_lp (wys q (U z) (V z)) fx (frm_of w z) n f s)
  | 0, f, s, he, hs, hz, hb, hg => ⟨⟨[], by simp [rf_lp]⟩, hs, hb, fun _ g hgk => hg g (by omega), fun t ht => by cases ht⟩
  | n + 1, f, s, he, hs, hz, hb, hg => by
    have hring := wm_ring (hI.2.2 f (by omega)) hU hV
    rw [rf_lp]
    have e1 : wys q (U z) (V z) f = wm (q.2.1 f) (q.2.2 f) (U z) (V z) := rfl
    rw [e1]
    cases hm : wm (q.2.1 f) (q.2.2 f) (U z) (V z) with
    | none =>
      rw [hm] at hring
      exact ⟨⟨[], by simp⟩, hs, hb, fun q => (by cases q), fun t ht => by cases ht; exact ⟨by omega, hring⟩⟩
    | some S =>
      rw [hm] at hring
      obtain ⟨a1, ⟨ex, a2⟩, a3, a4⟩ := rc_ok (f := f) (fun e he => (hI.2.1 e he).1) hw (by omega) hring hs hz hb _ rfl
      have hsub : ∀ x, x ∈ w :: s.2.1 → x ∈ w :: (rc (fun x => (S x && !fx x) && !s.1 x) (frm_of w z) s).2.1 := fun x hx => by
        rw [a2]
        rcases List.mem_cons.mp hx with q | q
        · rw [q]; exact List.mem_cons_self
        · exact List.mem_cons_of_mem _ (List.mem_append_left _ q)
      have ih := rf_lp_ok hI hw hU hV n (f + 1) _ (by omega) a1 (by rw [a2]; exact ap_get (L := w :: s.2.1) hz) a3 (fun g hg2 => by
        by_cases c : g = f
        · subst c; exact a4
        · exact bf_D_mono (hg g (by omega)) hsub)
      obtain ⟨⟨ex2, b1⟩, b2⟩ := ih
      exact ⟨⟨ex ++ ex2, by rw [b1, a2, List.append_assoc]⟩, b2⟩
def fQ (U V : Nat → Nat) (k : Nat) (p : Nat → Option Nat) (fx : Nat → Bool) (w : Nat) (r : Option (Option Nat × Nat) × sq) : Prop := sJ U V p fx w r.2 ∧ (r.1 = none → bPR U V k p (fxP fx p) (w :: r.2.2.1) (r.2.2.1.length + 1)) ∧ ∀ lm t, r.1 = some (lm, t) → t < k ∧ ∃ i z, (w :: r.2.2.1)[i]? = some z ∧ lm = frm_of w z ∧ bPR U V k p (fxP fx p) (w :: r.2.2.1) i ∧ ¬ gh_in U V (gp_F p t) z
theorem fl_ok {q : pq} (hI : pqI U V k q) (hps : ∀ e, q.1 e ≠ none → ps e = true) (hw : q.1 w = none) {U0 V0 : Nat → Nat} (h0 : ∀ e, e < 24 → U0 e = U e ∧ V0 e = V e) : ∀ n h s, h + n = 24 → sJ U V q.1 fx w s → bPR U V k q.1 (fxP fx q.1) (w :: s.2.1) (h + 1) → fQ U V k q.1 fx w (fl k U0 V0 ps q fx n h s)
  | 0, h, s, he, hs, hb => by
    refine ⟨hs, fun _ => bPR_le hb ?_, fun lm t ht => by cases ht⟩
    show s.2.1.length + 1 ≤ h + 1
    obtain ⟨⟨pr, h1, _⟩, _⟩ := hs
    have := nd_le (n := 24) (List.nodup_cons.mp h1.2.1).2 (fun x hx => by
      obtain ⟨g, g1, _⟩ := bf_mem h1 x hx
      exact (hI.2.1 x (by rw [g1]; exact fun z => by cases z)).1)
    omega
  | n + 1, h, s, he, hs, hb => by
    rw [fl]
    cases hq : s.2.1[h]? with
    | none =>
      refine ⟨hs, fun _ => bPR_le hb ?_, fun lm t ht => by cases ht⟩
      show s.2.1.length + 1 ≤ h + 1
      have := List.getElem?_eq_none_iff.mp hq
      omega
    | some z =>
      obtain ⟨⟨pr, h1, _⟩, _⟩ := id hs
      obtain ⟨g, g1, _⟩ := bf_mem h1 z (List.mem_of_getElem? hq)
      have hzw : z ≠ w := fun e => by rw [e, hw] at g1; cases g1
      obtain ⟨z1, z2, z3⟩ := hI.2.1 z (by rw [g1]; exact fun z => by cases z)
      have e1 : (some z : Option Nat) = frm_of w z := by rw [frm_of, if_neg hzw]
      have hzL : (w :: s.2.1)[h + 1]? = some z := by rw [List.getElem?_cons_succ]; exact hq
      have key := rf_lp_ok (fx := fx) (i := h + 1) hI hw z2 z3 k 0 s (by omega) hs hzL hb (fun g hg => absurd hg (Nat.not_lt_zero g))
      show fQ U V k q.1 fx w (if ps z = true then (match rf_lp (wys q (U0 z) (V0 z)) fx (some z) k 0 s with
        | (some f, s2) => (some (some z, f), s2)
        | (none, s2) => fl k U0 V0 ps q fx n (h + 1) s2) else fl k U0 V0 ps q fx n (h + 1) s)
      rw [if_pos (hps z (by rw [g1]; exact fun z => by cases z)), (h0 z z1).1, (h0 z z1).2]
      rw [← e1] at key
      generalize rf_lp (wys q (U z) (V z)) fx (some z) k 0 s = r at key
      obtain ⟨o, s2⟩ := r
      obtain ⟨⟨ex, k1⟩, k2, k3, k4, k5⟩ := key
      have k1 : s2.2.1 = s.2.1 ++ ex := k1
      have hz2 : (w :: s2.2.1)[h + 1]? = some z := by rw [k1]; exact ap_get (L := w :: s.2.1) hzL
      cases o with
      | some t =>
        refine ⟨k2, fun q => (by cases q), fun lm t2 ht => ?_⟩
        cases ht
        exact ⟨(k5 t rfl).1, h + 1, z, hz2, e1, k3, (k5 t rfl).2⟩
      | none =>
        refine fl_ok hI hps hw h0 n (h + 1) s2 (by omega) k2 (fun i z2 hi hz3 f hf => ?_)
        by_cases c : i = h + 1
        · rw [c, hz2] at hz3
          cases hz3
          exact k4 rfl f hf
        · exact k3 i z2 (by omega) hz3 f hf
theorem fnd_ok {q : pq} (hI : pqI U V k q) (hps : ∀ e, q.1 e ≠ none → ps e = true) (hw : q.1 w = none) (hU : U w < 10) (hV : V w < 10) {U0 V0 : Nat → Nat} (h0 : ∀ e, e < 24 → U0 e = U e ∧ V0 e = V e) (fol : Nat → Option Nat) : fQ U V k q.1 fx w (fnd k U0 V0 ps q fx (U w) (V w) fol) := by
  have hs : sJ U V q.1 fx w (fun _ => false, [], fol) := ⟨⟨fun _ => w, bf_init, fun y hy => by cases hy⟩, fun x => ⟨fun h => (by cases h), fun h => (by cases h)⟩⟩
  have key := rf_lp_ok (fx := fx) (z := w) (i := 0) hI hw hU hV k 0 (fun _ => false, [], fol) (by omega) hs rfl (fun i z hi => absurd hi (Nat.not_lt_zero i)) (fun g hg => absurd hg (Nat.not_lt_zero g))
  have e1 : frm_of w w = none := by rw [frm_of, if_pos rfl]
  rw [e1] at key
  rw [fnd]
  generalize rf_lp (wys q (U w) (V w)) fx none k 0 (fun _ => false, [], fol) = r at key
  obtain ⟨o, s2⟩ := r
  obtain ⟨_, k2, k3, k4, k5⟩ := key
  cases o with
  | some t =>
    refine ⟨k2, fun q => (by cases q), fun lm t2 ht => ?_⟩
    cases ht
    exact ⟨(k5 t rfl).1, 0, w, rfl, e1.symm, k3, (k5 t rfl).2⟩
  | none =>
    refine fl_ok hI hps hw h0 24 0 s2 rfl k2 (fun i z2 hi hz3 f hf => ?_)
    have hi : i = 0 := by omega
    subst hi
    cases hz3
    exact k4 rfl f hf
/-- nothing found: what is reached is closed -/
theorem fQ_none {r : Option (Option Nat × Nat) × sq} (hw : p w = none) (h : fQ U V k p fx w r) (hr : r.1 = none) : (∀ x, r.2.1 x = true → p x ≠ none ∧ fx x = false) ∧ ∀ z, r.2.1 z = true ∨ z = w → ∀ f, f < k → gh_in U V (fun x => gp_F p f x ∧ (r.2.1 x = true ∨ fxP fx p x)) z := by
  obtain ⟨⟨⟨pr, h1, _⟩, h2⟩, h3, _⟩ := h
  have h3 := h3 hr
  constructor
  · intro x hx
    obtain ⟨g, g1, g2⟩ := bf_mem h1 x ((h2 x).mp hx)
    have hpx : p x ≠ none := by rw [g1]; exact fun z => by cases z
    refine ⟨hpx, ?_⟩
    cases hb : fx x
    · rfl
    · exact absurd ⟨hb, hpx⟩ g2
  · intro z hz f hf
    have hmem : z ∈ w :: r.2.2.1 := by
      rcases hz with q | q
      · exact List.mem_cons_of_mem _ ((h2 z).mp q)
      · rw [q]; exact List.mem_cons_self
    obtain ⟨i, hi⟩ := List.mem_iff_getElem?.mp hmem
    have hil := (List.getElem?_eq_some_iff.mp hi).1
    have hil : i < r.2.2.1.length + 1 := by simpa using hil
    refine gq_mono (fun x hx => ⟨hx.1, ?_⟩) (h3 i z hil hi f hf)
    rcases hx.2 with q | q
    · rcases List.mem_cons.mp q with c | c
      · have hx1 : p x = some f := hx.1
        rw [c, hw] at hx1; cases hx1
      · exact Or.inl ((h2 x).mpr c)
    · exact Or.inr q
/-- room found: a row of moves -/
theorem fQ_some {r : Option (Option Nat × Nat) × sq} {lm : Option Nat} {t : Nat} (h : fQ U V k p fx w r) (hr : r.1 = some (lm, t)) : t < k ∧ ∃ pr z l, chn pr w (z :: l) ∧ lm = frm_of w z ∧ (z :: l).Nodup ∧ (∀ y, y ∈ z :: l → y = w ∨ (p y ≠ none ∧ fx y = false ∧ r.2.2.2 y = frm_of w (pr y))) ∧ gp_pth U V p (gp_F p t) (z :: l) := by
  obtain ⟨⟨⟨pr, h1, h2⟩, h3⟩, _, h4⟩ := h
  obtain ⟨ht, i, z, c1, c2, c3, c4⟩ := h4 lm t hr
  obtain ⟨l, d1, d2, d3, d4, d5⟩ := bf_path h1 i z c1
  refine ⟨ht, pr, z, l, d2, c2, d3, fun y hy => ?_, d5 _ c4 (fun i2 z2 hi hz => gq_mono (fun x hx => hx.1) (c3 i2 z2 hi hz t ht))⟩
  rcases d4 y hy with q | q
  · exact Or.inl q
  · by_cases c : y = w
    · exact Or.inl c
    · obtain ⟨i2, _, e2⟩ := d1 y hy
      have hm : y ∈ r.2.2.1 := (List.mem_cons.mp (List.mem_of_getElem? e2)).resolve_left c
      refine Or.inr ⟨q.1, ?_, h2 y hm⟩
      cases hb : fx y
      · rfl
      · exact absurd ⟨hb, q.1⟩ q.2
/-- the moves -/
theorem tk_ok {fol : Nat → Option Nat} {pr : Nat → Nat} (hw24 : w < 24) (hwU : U w < 10) (hwV : V w < 10) : ∀ (l : List Nat) (z n t : Nat) (q : pq), l.length ≤ n → pqI U V k q → t < k → q.1 w = none → chn pr w (z :: l) → (z :: l).Nodup → (∀ y, y ∈ z :: l → y = w ∨ (q.1 y ≠ none ∧ fol y = frm_of w (pr y))) → (∀ y, y ∈ z :: l → y ≠ w → ps y = true) → gp_pth U V q.1 (gp_F q.1 t) (z :: l) → ∀ r, tk U V ps fol n q (frm_of w z) (some t) = r → pqI U V k (pq_put U V r.1 w r.2) ∧ (pq_put U V r.1 w r.2).1 = shp (z :: l) q.1 (some t)
  | [], z, n, t, q, hn, hI, ht, hw, hc, hnd, hm, hps, hp, r, hr => by
    have hzw : z = w := hc
    subst hzw
    have hr2 : r = (q, some t) := by
      rw [← hr, frm_of, if_pos rfl]
      cases n <;> rfl
    subst hr2
    exact pq_put_ok hI hw hw24 hwU hwV ht hp.1
  | y :: l, z, n, t, q, hn, hI, ht, hw, hc, hnd, hm, hps, hp, r, hr => by
    obtain ⟨hzw, hy, hc2⟩ := hc
    obtain ⟨hz, hn2⟩ := List.nodup_cons.mp hnd
    obtain ⟨i, hi, hik, h1, h2⟩ := gp_step (pqI_ok hI) ht hz (by simp) hp
    have hzp : q.1 z ≠ none := by rw [hi]; exact fun z => by cases z
    obtain ⟨e1, e2, e3⟩ := hI.2.1 z hzp
    obtain ⟨m1, m2⟩ := pq_mv_ok (m := z) (t := t) hI e1 e2 e3 ht hp.1
    have hfz : fol z = frm_of w y := by
      rcases hm z List.mem_cons_self with c | c
      · exact absurd c hzw
      · rw [hy]; exact c.2
    cases n with
    | zero => simp at hn
    | succ n =>
      rw [frm_of, if_neg hzw, tk, if_pos (hps z List.mem_cons_self hzw), hfz, hi] at hr
      have hq2 : (pq_put U V (pq_rem q z) z (some t)).1 w = none := by rw [m2, va_up_ne _ _ (Ne.symm hzw)]; exact hw
      obtain ⟨a1, a2⟩ := tk_ok hw24 hwU hwV l y n i _ (by simp at hn; omega) m1 hik hq2 hc2 hn2 (fun x hx => by
        have hxz : x ≠ z := fun c => hz (c ▸ hx)
        rcases hm x (List.mem_cons_of_mem _ hx) with c | c
        · exact Or.inl c
        · exact Or.inr ⟨by rw [m2, va_up_ne _ _ hxz]; exact c.1, c.2⟩) (fun x hx => hps x (List.mem_cons_of_mem _ hx)) (by rw [m2]; exact h2) r hr
      refine ⟨a1, ?_⟩
      rw [a2, m2]
      show _ = shp (y :: l) (va_up q.1 z (some t)) (q.1 z)
      rw [hi]
theorem tkin_ok {q : pq} {r : Option (Option Nat × Nat) × sq} {lm : Option Nat} {t : Nat} (hI : pqI U V k q) (hps : ∀ e, q.1 e ≠ none → ps e = true) (hw : q.1 w = none) (hw24 : w < 24) (hwU : U w < 10) (hwV : V w < 10) (h : fQ U V k q.1 fx w r) (hr : r.1 = some (lm, t)) : pqI U V k (tkin U V ps r.2.2.2 q lm t w) ∧ (∀ e, (tkin U V ps r.2.2.2 q lm t w).1 e ≠ none ↔ q.1 e ≠ none ∨ e = w) ∧ ∀ e, fx e = true → q.1 e ≠ none → (tkin U V ps r.2.2.2 q lm t w).1 e = q.1 e := by
  obtain ⟨ht, pr, z, l, c1, c2, c3, c4, c5⟩ := fQ_some h hr
  have hlen : l.length ≤ 24 := by
    have := nd_le (n := 24) c3 (fun x hx => by
      rcases c4 x hx with c | c
      · rw [c]; exact hw24
      · exact (hI.2.1 x c.1).1)
    simp at this
    omega
  obtain ⟨a1, a2⟩ := tk_ok hw24 hwU hwV l z 24 t q hlen hI ht hw c1 c3 (fun y hy => (c4 y hy).elim Or.inl (fun c => Or.inr ⟨c.1, c.2.2⟩)) (fun y hy hyw => (c4 y hy).elim (fun c => absurd c hyw) (fun c => hps y c.1)) c5 _ rfl
  obtain ⟨b1, b2, b3⟩ := shp_ok l z q.1 t (pqI_ok hI) ht hw c1 c3 c5
  rw [← c2] at a1 a2
  have e1 : (tkin U V ps r.2.2.2 q lm t w).1 = shp (z :: l) q.1 (some t) := a2
  refine ⟨a1, fun e => by rw [e1]; exact b2 e, fun e he hq => ?_⟩
  rw [e1]
  refine b3 e (fun hm => ?_)
  rcases c4 e hm with c | c
  · rw [c] at hq; exact hq hw
  · rw [c.2.1] at he; cases he
theorem fQ_fit {q : pq} {r : Option (Option Nat × Nat) × sq} (hI : pqI U V k q) (hw : q.1 w = none) (h : fQ U V k q.1 fx w r) (hr : r.1 ≠ none) : gp_fit U V k (fun e => q.1 e ≠ none ∨ e = w) := by
  cases hq : r.1 with
  | none => exact absurd hq hr
  | some x =>
    obtain ⟨lm, t⟩ := x
    obtain ⟨ht, pr, z, l, c1, c2, c3, c4, c5⟩ := fQ_some h hq
    obtain ⟨b1, b2, b3⟩ := shp_ok l z q.1 t (pqI_ok hI) ht hw c1 c3 c5
    exact ⟨_, b1, fun e => (b2 e).symm⟩
end SE
