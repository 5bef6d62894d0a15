/-! SETTLE in pure words: edge by edge the least forest -/
theorem lsb_no {S : Nat → Bool} : ∀ n e, lsb S n e = none → ∀ i, e ≤ i → i < e + n → S i = false
  | 0, e, _, i, h1, h2 => by omega
  | n + 1, e, h, i, h1, h2 => by
    rw [lsb] at h
    by_cases c : S e = true
    · rw [if_pos c] at h; cases h
    · rw [if_neg c] at h
      by_cases c2 : i = e
      · subst c2; exact Bool.eq_false_iff.mpr c
      · exact lsb_no n (e + 1) h i (by omega) (by omega)
theorem lsb_is {S : Nat → Bool} {j : Nat} : ∀ n e, lsb S n e = some j → S j = true
  | 0, e, h => by cases h
  | n + 1, e, h => by
    rw [lsb] at h
    by_cases c : S e = true
    · rw [if_pos c] at h; cases h; exact c
    · rw [if_neg c] at h; exact lsb_is n (e + 1) h
section ST
variable {U V : Nat → Nat} {k : Nat} {ps : Nat → Bool}
/-- the set of those that lie fixed when e is tried -/
abbrev fxe (H : Nat → Bool) (e : Nat) : Nat → Prop := fun x => (x < e ∧ H x = true) ∨ x = e
theorem mvt_ok {H fx : Nat → Bool} {e f t : Nat} (hfx : ∀ i, fx i = true ↔ i ≤ e) (z : pfo) (hI : pqI U V k z.1) (hH : ∀ x, H x = true ↔ z.1.1 x ≠ none) (hps : ∀ x, H x = true → ps x = true) (he : z.1.1 e = some t) (hft : f < t) : ∀ r, mvt k U V ps fx z e f = r → pqI U V k r.2.1 ∧ (∀ x, H x = true ↔ r.2.1.1 x ≠ none) ∧ ((r.1 = true ∧ r.2.1.1 e = some f ∧ ∀ x, x < e → H x = true → r.2.1.1 x = z.1.1 x) ∨ (r.1 = false ∧ r.2.1.1 = z.1.1 ∧ ¬ gp_fix U V k (fun x => H x = true) (fxe H e) (va_up z.1.1 e (some f)))) := by
  intro r hr
  have htk := hI.1 e t he
  have hfk : f < k := by omega
  obtain ⟨e24, eU, eV⟩ := hI.2.1 e (sP he)
  have hok := pqI_ok hI
  have hring := wm_ring (hI.2.2 f hfk) eU eV
  have hHe : H e = true := (hH e).mpr (sP he)
  rw [mvt, show wys z.1 (U e) (V e) f = wm (z.1.2.1 f) (z.1.2.2 f) (U e) (V e) from rfl] at hr
  cases hm : wm (z.1.2.1 f) (z.1.2.2 f) (U e) (V e) with
  | none =>
    rw [hm] at hring hr
    subst hr
    obtain ⟨a1, a2⟩ := pq_mv_ok (m := e) (t := f) hI e24 eU eV hfk hring
    refine ⟨a1, fun x => ?_, Or.inl ⟨rfl, ?_, fun x hx _ => ?_⟩⟩
    · show _ ↔ (pq_put U V (pq_rem z.1 e) e (some f)).1 x ≠ none
      rw [a2]
      by_cases c : x = e
      · subst c; rw [va_up_self]; simp [hHe]
      · rw [va_up_ne _ _ c]; exact hH x
    · show (pq_put U V (pq_rem z.1 e) e (some f)).1 e = _
      rw [a2, va_up_self]
    · show (pq_put U V (pq_rem z.1 e) e (some f)).1 x = _
      rw [a2, va_up_ne _ _ (by omega)]
  | some S =>
    rw [hm] at hring hr
    obtain ⟨r1, r2, r3⟩ := hring
    have hSe : S e = false := by
      cases hb : S e with
      | false => rfl
      | true =>
        have := r1 e hb
        have this : z.1.1 e = some f := this
        rw [he] at this
        cases this
        omega
    cases hl : lsb (fun i => S i && !fx i) 24 0 with
    | none =>
      simp only [hl] at hr
      subst hr
      refine ⟨hI, hH, Or.inr ⟨rfl, rfl, ?_⟩⟩
      rintro ⟨p2, h2, hd, hfix⟩
      have hp2e : p2 e = some f := by rw [hfix e (Or.inr rfl), va_up_self]
      refine h2.2 f hfk e hp2e (gq_mono (fun x hx => ?_) r2)
      have hx : S x = true := hx
      have hpx : z.1.1 x = some f := r1 x hx
      have hxe : x ≠ e := fun c => by rw [c, hSe] at hx; cases hx
      have h24 := (hI.2.1 x (sP hpx)).1
      have hfx2 := lsb_no 24 0 hl x (by omega) (by omega)
      have hfx3 : fx x = true := by
        cases hb : fx x with
        | true => rfl
        | false => simp [hx, hb] at hfx2
      have hle := (hfx x).mp hfx3
      refine ⟨?_, hxe⟩
      show p2 x = some f
      rw [hfix x (Or.inl ⟨by omega, (hH x).mpr (sP hpx)⟩), va_up_ne _ _ hxe]
      exact hpx
    | some o =>
      simp only [hl] at hr
      have ho := lsb_is 24 0 hl
      have ho1 : S o = true ∧ fx o = false := by simpa using ho
      have hpo : z.1.1 o = some f := r1 o ho1.1
      have hoe : o ≠ e := fun c => by rw [c, hSe] at ho1; cases ho1.1
      have hoe2 : e < o := by
        rcases Nat.lt_or_ge e o with c | c
        · exact c
        · rw [(hfx o).mpr c] at ho1; cases ho1.2
      obtain ⟨o24, oU, oV⟩ := hI.2.1 o (sP hpo)
      obtain ⟨a1, a2⟩ := pq_rem_ok hI o
      obtain ⟨b1, b2⟩ := pq_mv_ok (m := e) (t := f) a1 e24 eU eV hfk (by rw [a2, gp_F_rm]; exact r3 o ho1.1)
      have hQ : (mv1 U V z.1 e f o).1 = va_up (va_up z.1.1 o none) e (some f) := by rw [← a2]; exact b2
      have hQo : (mv1 U V z.1 e f o).1 o = none := by rw [hQ, va_up_ne _ _ hoe, va_up_self]
      have hQe : (mv1 U V z.1 e f o).1 e = some f := by rw [hQ, va_up_self]
      have hQx : ∀ x, x ≠ e → x ≠ o → (mv1 U V z.1 e f o).1 x = z.1.1 x := fun x c1 c2 => by rw [hQ, va_up_ne _ _ c1, va_up_ne _ _ c2]
      have hQI : pqI U V k (mv1 U V z.1 e f o) := b1
      have hdom : ∀ x, H x = true ↔ ((mv1 U V z.1 e f o).1 x ≠ none ∨ x = o) := fun x => by
        by_cases c1 : x = e
        · subst c1; rw [hQe]; simp [hHe]
        · by_cases c2 : x = o
          · subst c2; simp [(hH x).mpr (sP hpo)]
          · rw [hQx x c1 c2]; simp [c2, hH x]
      have hps2 : ∀ x, (mv1 U V z.1 e f o).1 x ≠ none → ps x = true := fun x hx => hps x ((hdom x).mpr (Or.inl hx))
      have hf := fnd_ok (fx := fx) (U0 := U) (V0 := V) hQI hps2 hQo oU oV (fun _ _ => ⟨rfl, rfl⟩) z.2
      generalize hQQ : mv1 U V z.1 e f o = Q at hr hQ hQo hQe hQx hQI hdom hps2 hf
      generalize fnd k U V ps Q fx (U o) (V o) z.2 = w at hr hf
      obtain ⟨w, s⟩ := w
      cases w with
      | some x =>
        obtain ⟨lm, t2⟩ := x
        simp only at hr
        obtain ⟨c1, c2, c3⟩ := tkin_ok hQI hps2 hQo o24 oU oV hf rfl
        subst hr
        refine ⟨c1, fun x => ?_, Or.inl ⟨rfl, ?_, fun x hx hHx => ?_⟩⟩
        · show _ ↔ (tkin U V ps s.2.2 Q lm t2 o).1 x ≠ none
          rw [c2 x]; exact hdom x
        · show (tkin U V ps s.2.2 Q lm t2 o).1 e = _
          rw [c3 e ((hfx e).mpr (Nat.le_refl e)) (sP hQe)]; exact hQe
        · show (tkin U V ps s.2.2 Q lm t2 o).1 x = _
          have hxx := hQx x (by omega) (by omega)
          rw [c3 x ((hfx x).mpr (by omega)) (by rw [hxx]; exact (hH x).mp hHx)]; exact hxx
      | none =>
        simp only at hr
        obtain ⟨g1, g2⟩ := fQ_none hQo hf rfl
        have hno := gp_closed (U := U) (V := V) (k := k) (p := Q.1) (fx := fxP fx Q.1) (w := o) (n := 10) (M := 24) (fun e he => (hQI.2.1 e he).1) o24 (fun x hx => by
          rcases hx with c | c
          · exact (hQI.2.1 x c).2
          · rw [c]; exact ⟨oU, oV⟩) hQo hQI.1 (fun x => s.1 x = true) (fun x hx => (g1 x hx).1) (fun x hx => hx.2) g2
        obtain ⟨d1, d2⟩ := pq_rem_ok hQI e
        have nt : ¬ gh_in U V (gp_F (pq_rem Q e).1 t) e := by
          rw [d2, gp_F_rm]
          refine fun c => hok.2 t htk e he (gq_mono (fun x hx => ⟨?_, hx.2⟩) c)
          have hx1 : Q.1 x = some t := hx.1
          have hxo : x ≠ o := fun c2 => by rw [c2, hQo] at hx1; cases hx1
          show z.1.1 x = some t
          rw [← hQx x hx.2 hxo]; exact hx1
        obtain ⟨d3, d4⟩ := pq_put_ok (m := e) (t := t) d1 (by rw [d2, va_up_self]) e24 eU eV htk nt
        have no : ¬ gh_in U V (gp_F (pq_put U V (pq_rem Q e) e (some t)).1 f) o := by
          rw [d4, d2, bx_uu]
          refine fun c => hok.2 f hfk o hpo (gq_mono (fun x hx => ?_) c)
          have hx1 : va_up Q.1 e (some t) x = some f := hx
          have hxe : x ≠ e := fun c2 => by
            rw [c2, va_up_self] at hx1
            cases hx1
            omega
          rw [va_up_ne _ _ hxe] at hx1
          have hxo : x ≠ o := fun c2 => by rw [c2, hQo] at hx1; cases hx1
          refine ⟨?_, hxo⟩
          show z.1.1 x = some f
          rw [← hQx x hxe hxo]; exact hx1
        obtain ⟨d5, d6⟩ := pq_put_ok (m := o) (t := f) d3 (by rw [d4, d2, bx_uu, va_up_ne _ _ hoe]; exact hQo) o24 oU oV hfk no
        have hfin : (pq_put U V (pq_put U V (pq_rem Q e) e (some t)) o (some f)).1 = z.1.1 := by
          rw [d6, d4, d2, bx_uu]
          funext x
          by_cases c1 : x = o
          · rw [c1, va_up_self, hpo]
          · rw [va_up_ne _ _ c1]
            by_cases c2 : x = e
            · rw [c2, va_up_self, he]
            · rw [va_up_ne _ _ c2, hQx x c2 c1]
        rw [he] at hr
        subst hr
        refine ⟨d5, fun x => ?_, Or.inr ⟨rfl, hfin, ?_⟩⟩
        · show _ ↔ (pq_put U V (pq_put U V (pq_rem Q e) e (some t)) o (some f)).1 x ≠ none
          rw [hfin]; exact hH x
        · rintro ⟨p2, h2, hd, hfix⟩
          refine hno ⟨p2, h2, fun x => by rw [← hd x]; exact (hdom x).symm, fun x hx => ?_⟩
          have hxle := (hfx x).mp hx.1
          by_cases c1 : x = e
          · rw [hfix x (Or.inr c1), c1, va_up_self, hQe]
          · have hxo : x ≠ o := by omega
            have hz := hQx x c1 hxo
            have hHx : H x = true := (hH x).mpr (by rw [← hz]; exact hx.2)
            rw [hfix x (Or.inl ⟨by omega, hHx⟩), va_up_ne _ _ c1, hz]
theorem gp_fix_cong {S fx : Nat → Prop} {p p2 : Nat → Option Nat} (h : ∀ x, fx x → p x = p2 x) (g : gp_fix U V k S fx p) : gp_fix U V k S fx p2 := by
  obtain ⟨a, b, c, d⟩ := g
  exact ⟨a, b, c, fun x hx => (d x hx).trans (h x hx)⟩
theorem st_in_ok {H fx : Nat → Bool} {e : Nat} (hps : ∀ x, H x = true → ps x = true) (hfx : ∀ i, fx i = true ↔ i ≤ e) : ∀ n f (z : pfo), pqI U V k z.1 → (∀ x, H x = true ↔ z.1.1 x ≠ none) → z.1.1 e = some (f + n) → LM U V k H z.1.1 e → (∀ g, g < f → ¬ gp_fix U V k (fun x => H x = true) (fxe H e) (va_up z.1.1 e (some g))) → ∀ r, st_in k U V ps fx e n f z = r → pqI U V k r.1 ∧ (∀ x, H x = true ↔ r.1.1 x ≠ none) ∧ LM U V k H r.1.1 (e + 1)
  | 0, f, z, hI, hH, he, hL, hg, r, hr => by
    subst hr
    refine ⟨hI, hH, fun e2 he2 hHe f0 f1 h1 h2 => ?_⟩
    by_cases c : e2 = e
    · subst c
      rw [show st_in k U V ps fx e2 0 f z = z from rfl, he] at h1
      cases h1
      exact hg f1 (by omega)
    · exact hL e2 (by omega) hHe f0 f1 h1 h2
  | n + 1, f, z, hI, hH, he, hL, hg, r, hr => by
    rw [st_in] at hr
    obtain ⟨a1, a2, a3⟩ := mvt_ok (f := f) hfx z hI hH hps he (by omega) _ rfl
    generalize mvt k U V ps fx z e f = m at hr a1 a2 a3
    obtain ⟨b, z2⟩ := m
    rcases a3 with ⟨c1, c2, c3⟩ | ⟨c1, c2, c3⟩
    · have c1 : b = true := c1
      have c2 : z2.1.1 e = some f := c2
      have c3 : ∀ x, x < e → H x = true → z2.1.1 x = z.1.1 x := c3
      subst c1
      have hr : z2 = r := hr
      subst hr
      refine ⟨a1, a2, fun e2 he2 hHe f0 f1 h1 h2 => ?_⟩
      by_cases c : e2 = e
      · subst c
        rw [c2] at h1
        cases h1
        refine fun hfix => hg f1 h2 (gp_fix_cong (fun x hx => ?_) hfix)
        by_cases cx : x = e2
        · rw [cx, va_up_self, va_up_self]
        · rw [va_up_ne _ _ cx, va_up_ne _ _ cx]
          rcases hx with q | q
          · exact c3 x q.1 q.2
          · exact absurd q cx
      · exact LM_cong hL c3 e2 (by omega) hHe f0 f1 h1 h2
    · have c1 : b = false := c1
      have c2 : z2.1.1 = z.1.1 := c2
      subst c1
      have hr : st_in k U V ps fx e n (f + 1) z2 = r := hr
      refine st_in_ok hps hfx n (f + 1) z2 a1 a2 (by rw [c2, he]; congr 1; omega) (by rw [c2]; exact hL) (fun g hg2 => ?_) r hr
      rw [c2]
      by_cases cg : g = f
      · rw [cg]; exact c3
      · exact hg g (by omega)
theorem st_out_ok {H : Nat → Bool} (hps : ∀ x, H x = true → ps x = true) : ∀ m e (fx : Nat → Bool) (z : pfo), (∀ i, fx i = true ↔ i < e) → pqI U V k z.1 → (∀ x, H x = true ↔ z.1.1 x ≠ none) → LM U V k H z.1.1 e → ∀ r, st_out k U V ps m e fx z = r → pqI U V k r.1 ∧ (∀ x, H x = true ↔ r.1.1 x ≠ none) ∧ LM U V k H r.1.1 (e + m)
  | 0, e, fx, z, hfx, hI, hH, hL, r, hr => by subst hr; exact ⟨hI, hH, hL⟩
  | m + 1, e, fx, z, hfx, hI, hH, hL, r, hr => by
    rw [st_out] at hr
    have hfx2 : ∀ i, (fx i || decide (i = e)) = true ↔ i ≤ e := fun i => by
      rw [Bool.or_eq_true, decide_eq_true_eq, hfx i]; omega
    have key : ∀ z2, st_in k U V ps (fun i => fx i || decide (i = e)) e (st_t (z.1.1 e)) 0 z = z2 → pqI U V k z2.1 ∧ (∀ x, H x = true ↔ z2.1.1 x ≠ none) ∧ LM U V k H z2.1.1 (e + 1) := by
      intro z2 hz2
      cases he : z.1.1 e with
      | none =>
        rw [he] at hz2
        have hz2 : z = z2 := hz2
        subst hz2
        refine ⟨hI, hH, fun e2 he2 hHe f0 f1 h1 h2 => ?_⟩
        by_cases c : e2 = e
        · rw [c, he] at h1; cases h1
        · exact hL e2 (by omega) hHe f0 f1 h1 h2
      | some t =>
        rw [he] at hz2
        exact st_in_ok (fx := fun i => fx i || decide (i = e)) hps hfx2 t 0 z hI hH (by rw [he, Nat.zero_add]) hL (fun g hg => absurd hg (Nat.not_lt_zero g)) z2 hz2
    obtain ⟨k1, k2, k3⟩ := key _ rfl
    obtain ⟨a1, a2, a3⟩ := st_out_ok hps m (e + 1) _ _ (fun i => by rw [hfx2 i]; omega) k1 k2 k3 r hr
    exact ⟨a1, a2, by rw [show e + (m + 1) = e + 1 + m by omega]; exact a3⟩
end ST
/-! WHAT A PACKING'S STATE SAYS -/
theorem pkd_ok {U V : Nat → Nat} {n k sz : Nat} {ps : Nat → Bool} {q : pq} {b : Prop} (hn : n ≤ 10) (hP : ∀ e, ps e = true → e < 24 ∧ U e < n ∧ V e < n) (h : pkd k U V ps q sz b) : pqI U V k q ∧ (∀ x, hdd n U V ps k x = true ↔ q.1 x ≠ none) ∧ sz = cnt_lp (hdd n U V ps k) 24 0 0 ∧ (∀ x, hdd n U V ps k x = true → ps x = true) ∧ (b → LM U V k (hdd n U V ps k) q.1 24) := by
  have key : ∀ fo r, pk_lp k U V ps 24 0 (pq0, 0, fo) = r → pqI U V k r.1 ∧ (∀ x, hdd n U V ps k x = true ↔ r.1.1 x ≠ none) ∧ r.2.1 = gc_n (fun x => hdd n U V ps k x = true) 24 ∧ ∀ x, hdd n U V ps k x = true → ps x = true := fun fo r hr => pk_ok hn hP 24 0 (pq0, 0, fo) (fun _ => false) rfl pqI_0 (fun x => ⟨fun c => (by cases c), fun c => absurd rfl c⟩) (fun x hx => by cases hx) (gc_none 24 (fun v _ => Bool.false_ne_true)).symm r hr
  have hcnt : cnt_lp (hdd n U V ps k) 24 0 0 = gc_n (fun x => hdd n U V ps k x = true) 24 := by rw [cnt_gc0, Nat.zero_add]
  rcases h with ⟨hb, fo, fo2, h1⟩ | ⟨hb, q0, fo, fo2, fo3, fo4, h1, h2⟩
  · obtain ⟨k1, k2, k3, k4⟩ := key fo _ h1
    exact ⟨k1, k2, k3.trans hcnt.symm, k4, fun c => absurd c hb⟩
  · obtain ⟨k1, k2, k3, k4⟩ := key fo _ h1
    obtain ⟨a1, a2, a3⟩ := st_out_ok (H := hdd n U V ps k) k4 24 0 (fun _ => false) (q0, fo3) (fun i => ⟨fun c => (by cases c), fun c => absurd c (Nat.not_lt_zero i)⟩) k1 k2 (fun e he => absurd he (Nat.not_lt_zero e)) _ h2
    exact ⟨a1, a2, k3.trans hcnt.symm, k4, fun _ => a3⟩
