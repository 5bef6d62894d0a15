/-! THE WORLD THAT WAS MADE is the memory by names -/
def gb_σ : gm_S := (fun x j => if (x = 1 ∧ j = 3) ∨ (x = 5 ∧ j = 0) then 1 else if 20 ≤ x ∧ (j = 10 ∨ j = 11) then -1 else 0, fun _ _ => 0)
theorem gb_kInv : kInv gb_σ 1 (fun _ => false) (fun _ => 0) (fun _ => 0) := by
  refine ⟨⟨Nat.le_refl 1, by decide, rfl, bm_0, fun _ _ => rfl, fun e _ => ⟨rfl, rfl, Nat.zero_lt_succ 9, Nat.zero_lt_succ 9⟩, fun e h => (by cases h)⟩, fun k hk => Or.inl ⟨⟨?_, ⟨fun _ => some 0, fun e he => ⟨rfl, fun j hj => (by cases hj; decide)⟩⟩, Or.inl ?_⟩, ?_⟩⟩
  · simp [gb_σ, gm_P]
  · simp [gb_σ, gm_P]
  · simp [gb_σ, gm_P]
theorem gb_mG : mG gb_σ 1 (fun _ => false) (fun _ => 0) (fun _ => 0) := ⟨Nat.le_refl 1, by decide, rfl, fun e he => rfl, fun e _ => ⟨rfl, rfl, Nat.zero_lt_succ 9, Nat.zero_lt_succ 9⟩, fun _ _ => rfl, fun e h => (by cases h)⟩
/-- a row of references as it was made: nothing behind its end -/
def gb_cut (c : va_E) : va_E := match c with
  | .inl (cA, n, .inr (.inr (.inr (.inr f)))) => .inl (cA, n, .inr (.inr (.inr (.inr (fun i => if i < n then f i else none)))))
  | c => c
theorem gb_uncut {D : va_G} {cl : List vw_C} {a : Nat} {c : va_E} {H : Heap} (h : va_at D cl (a, gb_cut c) H) : va_at D cl (a, c) H := by
  rcases c with ⟨cA, n, f | f | f | f | f⟩ | o
  · exact h
  · exact h
  · exact h
  · exact h
  · have h : H[a]? = some (vp_cell cA (n, .inr (.inr (.inr (.inr (fun i => if i < n then f i else none)))))) := h
    show H[a]? = some (vp_cell cA (n, .inr (.inr (.inr (.inr f)))))
    rw [h, vp_cell_q, vp_cell_q]
    congr 1
    unfold arrV
    congr 1
    congr 1
    funext j
    show va_rf (if j.val < n then f j.val else none) = va_rf (f j.val)
    rw [if_pos j.isLt]
  · exact h
abbrev gb_T9 : Type := Nat × Nat × Nat × Nat × Nat × Nat × Nat × Nat × Nat
def gb_ad (q0 g a b pa : Nat) (h : Nat → Nat) (u : Nat → Nat → Nat) (qm : Nat) (v : gb_T9) : Nat → Nat := fun x =>
  if x < 20 then match x with
    | 0 => q0
    | 1 => g
    | 2 => a
    | 3 => b
    | 4 => pa
    | 5 => qm
    | 6 => v.1
    | 7 => v.2.1
    | 8 => v.2.2.1
    | 9 => v.2.2.2.1
    | 10 => v.2.2.2.2.1
    | 11 => v.2.2.2.2.2.1
    | 12 => v.2.2.2.2.2.2.1
    | 13 => v.2.2.2.2.2.2.2.1
    | _ => v.2.2.2.2.2.2.2.2
  else if (x - 20) % 30 = 0 then h ((x - 20) / 30) else u ((x - 20) / 30) ((x - 20) % 30)
def gb_nms : List Nat := [0, 1, 2, 3, 4] ++ (List.range 7).flatMap (fun k => (List.range (5 + 3 * k)).map (fun r => 20 + 30 * k + r)) ++ [5, 6, 7, 8, 9, 10, 11, 12, 13, 14]
theorem gb_sub : ∀ x ∈ gm_names, x ∈ gb_nms := by decide +kernel
theorem gm_nd : gm_names.Nodup := by decide +kernel
section WLD
variable {D : va_G} {K4 : ClassId × ClassId × ClassId × ClassId} {q0 g a b pa qm : Nat} {h : Nat → Nat} {u : Nat → Nat → Nat} {v : gb_T9}
theorem ad_P {x k r : Nat} (hx : x = gm_P k + r) (h1 : 1 ≤ r) (h2 : r < 30) : gb_ad q0 g a b pa h u qm v x = u k r := by
  subst hx
  unfold gb_ad
  have e1 : (gm_P k + r - 20) % 30 = r := by unfold gm_P; omega
  have e2 : (gm_P k + r - 20) / 30 = k := by unfold gm_P; omega
  rw [if_neg (by unfold gm_P; omega), if_neg (by omega), e1, e2]
theorem ad_0 {k : Nat} : gb_ad q0 g a b pa h u qm v (gm_P k) = h k := by
  unfold gb_ad
  have e1 : (gm_P k - 20) % 30 = 0 := by unfold gm_P; omega
  have e2 : (gm_P k - 20) / 30 = k := by unfold gm_P; omega
  rw [if_neg (by unfold gm_P; omega), if_pos e1, e2]
/-- a cell by its name -/
abbrev gb_F (E : gm_E) (x : Nat) : Nat × va_E := (E.2.2 x, gb_cut (gm_cell E gb_σ x))
abbrev gb_E (D : va_G) (K4 : ClassId × ClassId × ClassId × ClassId) (q0 g a b pa : Nat) (h : Nat → Nat) (u : Nat → Nat → Nat) (qm : Nat) (v : gb_T9) : gm_E := (D, K4, gb_ad q0 g a b pa h u qm v)
theorem w_pl {k : Nat} (hk : k < 7) : ∀ j, j ≤ k → gb_pl K4 (u k) j = (List.range (3 * j)).map (fun r => gb_F (gb_E D K4 q0 g a b pa h u qm v) (gm_P k + (5 + r)))
  | 0, _ => rfl
  | j + 1, hj => by
    rw [gb_pl_s, w_pl hk j (by omega), show 3 * (j + 1) = 3 * j + 1 + 1 + 1 by omega, List.range_succ, List.range_succ, List.range_succ, List.map_append, List.map_append, List.map_append, List.append_assoc, List.append_assoc]
    congr 1
    have c0 : gb_F (gb_E D K4 q0 g a b pa h u qm v) (gm_P k + (5 + 3 * j)) = (u k (5 + 3 * j), .inr (2, [.ref (u k (5 + 3 * j + 1)), .ref (u k (5 + 3 * j + 2))])) := by
      have e := gm_cT (gb_E D K4 q0 g a b pa h u qm v) k j (by omega) (gb_σ.1 (gm_P k + 5 + 3 * j)) (gb_σ.2 (gm_P k + 5 + 3 * j))
      show ((gb_ad q0 g a b pa h u qm v) (gm_P k + (5 + 3 * j)), gb_cut (gm_cell (gb_E D K4 q0 g a b pa h u qm v) gb_σ (gm_P k + (5 + 3 * j)))) = _
      rw [ad_P (k := k) (r := 5 + 3 * j) rfl (by omega) (by omega), ← Nat.add_assoc, gm_cell, e]
      show (_, Sum.inr (2, [Value.ref (gb_ad q0 g a b pa h u qm v (gm_P k + 5 + 3 * j + 1)), Value.ref (gb_ad q0 g a b pa h u qm v (gm_P k + 5 + 3 * j + 2))])) = _
      rw [ad_P (k := k) (r := 5 + 3 * j + 1) (by omega) (by omega) (by omega), ad_P (k := k) (r := 5 + 3 * j + 2) (by omega) (by omega) (by omega)]
    have cr : ∀ r, 1 ≤ r → r < 3 → gb_F (gb_E D K4 q0 g a b pa h u qm v) (gm_P k + (5 + (3 * j + r))) = (u k (5 + 3 * j + r), gb_r K4 10) := fun r h1 h2 => by
      have e := gm_cU (gb_E D K4 q0 g a b pa h u qm v) k j r (by omega) h1 h2 (gb_σ.1 (gm_P k + 5 + 3 * j + r)) (gb_σ.2 (gm_P k + 5 + 3 * j + r))
      show ((gb_ad q0 g a b pa h u qm v) (gm_P k + (5 + (3 * j + r))), gb_cut (gm_cell (gb_E D K4 q0 g a b pa h u qm v) gb_σ (gm_P k + (5 + (3 * j + r))))) = _
      rw [ad_P (k := k) (r := 5 + 3 * j + r) (by omega) (by omega) (by omega), show gm_P k + (5 + (3 * j + r)) = gm_P k + 5 + 3 * j + r by omega, gm_cell, e]
      rfl
    have c1 := cr 1 (by omega) (by omega)
    have c2 := cr 2 (by omega) (by omega)
    show _ = [gb_F (gb_E D K4 q0 g a b pa h u qm v) (gm_P k + (5 + 3 * j)), gb_F (gb_E D K4 q0 g a b pa h u qm v) (gm_P k + (5 + (3 * j + 1))), gb_F (gb_E D K4 q0 g a b pa h u qm v) (gm_P k + (5 + (3 * j + 2)))]
    rw [c0, c1, c2]
theorem w_P {k : Nat} (hk : k < 7) : gb_wP K4 (h k) k (u k) = (List.range (5 + 3 * k)).map (fun r => gb_F (gb_E D K4 q0 g a b pa h u qm v) (20 + 30 * k + r)) := by
  rw [List.range_add, List.map_append, List.map_map, gb_wP, w_pl (D := D) (q0 := q0) (g := g) (a := a) (b := b) (pa := pa) (h := h) (qm := qm) (v := v) hk k (Nat.le_refl k)]
  congr 1
  have c0 : gb_F (gb_E D K4 q0 g a b pa h u qm v) (gm_P k) = (h k, .inr (1, [.ref (u k 1), .int 0, .int 0, .ref (u k 4), .int 0, .int 0, .int 0, .ref (u k 2), .int 0, .ref (u k 3), .int (-1), .int (-1)])) := by
    have e := gm_cP (gb_E D K4 q0 g a b pa h u qm v) k (gb_σ.1 (gm_P k)) (gb_σ.2 (gm_P k))
    show ((gb_ad q0 g a b pa h u qm v) (gm_P k), gb_cut (gm_cell (gb_E D K4 q0 g a b pa h u qm v) gb_σ (gm_P k))) = _
    rw [ad_0, gm_cell, e]
    have z : ∀ j, j ≠ 10 → j ≠ 11 → gb_σ.1 (gm_P k) j = 0 := fun j h1 h2 => by
      show (if (gm_P k = 1 ∧ j = 3) ∨ (gm_P k = 5 ∧ j = 0) then (1 : Int32) else if 20 ≤ gm_P k ∧ (j = 10 ∨ j = 11) then -1 else 0) = 0
      rw [if_neg (by unfold gm_P; omega), if_neg (by omega)]
    have z2 : ∀ j, j = 10 ∨ j = 11 → gb_σ.1 (gm_P k) j = -1 := fun j h1 => by
      show (if (gm_P k = 1 ∧ j = 3) ∨ (gm_P k = 5 ∧ j = 0) then (1 : Int32) else if 20 ≤ gm_P k ∧ (j = 10 ∨ j = 11) then -1 else 0) = -1
      rw [if_neg (by unfold gm_P; omega), if_pos ⟨by unfold gm_P; omega, h1⟩]
    rw [z 1 (by decide) (by decide), z 2 (by decide) (by decide), z 4 (by decide) (by decide), z 5 (by decide) (by decide), z 6 (by decide) (by decide), z 8 (by decide) (by decide), z2 10 (by decide), z2 11 (by decide)]
    show (_, Sum.inr (1, [Value.ref (gb_ad q0 g a b pa h u qm v (gm_P k + 1)), _, _, Value.ref (gb_ad q0 g a b pa h u qm v (gm_P k + 4)), _, _, _, Value.ref (gb_ad q0 g a b pa h u qm v (gm_P k + 2)), _, Value.ref (gb_ad q0 g a b pa h u qm v (gm_P k + 3)), _, _])) = _
    rw [ad_P (k := k) (r := 1) rfl (by omega) (by omega), ad_P (k := k) (r := 2) rfl (by omega) (by omega), ad_P (k := k) (r := 3) rfl (by omega) (by omega), ad_P (k := k) (r := 4) rfl (by omega) (by omega)]
  have cr : ∀ r, 1 ≤ r → r < 4 → gb_F (gb_E D K4 q0 g a b pa h u qm v) (gm_P k + r) = (u k r, gb_r K4 24) := fun r h1 h2 => by
    have e := gm_cR (gb_E D K4 q0 g a b pa h u qm v) k r h1 h2 (gb_σ.1 (gm_P k + r)) (gb_σ.2 (gm_P k + r))
    show ((gb_ad q0 g a b pa h u qm v) (gm_P k + r), gb_cut (gm_cell (gb_E D K4 q0 g a b pa h u qm v) gb_σ (gm_P k + r))) = _
    rw [ad_P (k := k) (r := r) rfl (by omega) (by omega), gm_cell, e]
    rfl
  have c4 : gb_F (gb_E D K4 q0 g a b pa h u qm v) (gm_P k + 4) = (u k 4, .inl (K4.2.2.2, k, .inr (.inr (.inr (.inr (gb_ff (u k) k)))))) := by
    have e := gm_cF (gb_E D K4 q0 g a b pa h u qm v) k (gb_σ.1 (gm_P k + 4)) (gb_σ.2 (gm_P k + 4))
    show ((gb_ad q0 g a b pa h u qm v) (gm_P k + 4), gb_cut (gm_cell (gb_E D K4 q0 g a b pa h u qm v) gb_σ (gm_P k + 4))) = _
    rw [ad_P (k := k) (r := 4) rfl (by omega) (by omega), gm_cell, e]
    show (_, Sum.inl (K4.2.2.2, k, Sum.inr (Sum.inr (Sum.inr (Sum.inr _))))) = _
    congr 8
    funext i
    unfold gb_ff
    by_cases c : i < k
    · rw [if_pos c, if_pos c]
      exact congrArg some (ad_P (k := k) (r := 5 + 3 * i) (by omega) (by omega) (by omega))
    · rw [if_neg c, if_neg c]
  have c1 := cr 1 (by omega) (by omega)
  have c2 := cr 2 (by omega) (by omega)
  have c3 := cr 3 (by omega) (by omega)
  show _ = [gb_F (gb_E D K4 q0 g a b pa h u qm v) (gm_P k), gb_F (gb_E D K4 q0 g a b pa h u qm v) (gm_P k + 1), gb_F (gb_E D K4 q0 g a b pa h u qm v) (gm_P k + 2), gb_F (gb_E D K4 q0 g a b pa h u qm v) (gm_P k + 3), gb_F (gb_E D K4 q0 g a b pa h u qm v) (gm_P k + 4)]
  rw [c0, c1, c2, c3, c4]
theorem w_PL : ∀ j, j ≤ 7 → gb_PL K4 h u j = (List.range j).flatMap (fun k => (List.range (5 + 3 * k)).map (fun r => gb_F (gb_E D K4 q0 g a b pa h u qm v) (20 + 30 * k + r)))
  | 0, _ => rfl
  | j + 1, hj => by
    rw [gb_PL_s, w_PL j (by omega), w_P (D := D) (q0 := q0) (g := g) (a := a) (b := b) (pa := pa) (h := h) (u := u) (qm := qm) (v := v) (show j < 7 by omega), List.range_succ, List.flatMap_append]
    simp
abbrev gb_wM (K4 : ClassId × ClassId × ClassId × ClassId) (qm : Nat) (u : gb_T9) : va_W := [(qm, .inr (4, [.int 1, .ref u.1, .ref u.2.1, .int 0, .ref u.2.2.1, .ref u.2.2.2.1, .ref u.2.2.2.2.1, .ref u.2.2.2.2.2.1, .ref u.2.2.2.2.2.2.1, .ref u.2.2.2.2.2.2.2.1, .ref u.2.2.2.2.2.2.2.2])), (u.1, gb_r K4 48), (u.2.1, gb_z K4 24), (u.2.2.1, gb_r K4 24), (u.2.2.2.1, gb_z K4 24), (u.2.2.2.2.1, gb_r K4 24), (u.2.2.2.2.2.1, gb_r K4 24), (u.2.2.2.2.2.2.1, gb_r K4 24), (u.2.2.2.2.2.2.2.1, gb_r K4 10), (u.2.2.2.2.2.2.2.2, gb_r K4 24)]
theorem w_all : gb_wK K4 q0 g a b pa h u ++ gb_wM K4 qm v = gb_nms.map (gb_F (gb_E D K4 q0 g a b pa h u qm v)) := by
  have e4 : gb_F (gb_E D K4 q0 g a b pa h u qm v) 4 = (pa, .inl (K4.2.2.1, 7, .inr (.inr (.inr (.inr (gb_fp h 7)))))) := by
    show (pa, Sum.inl (K4.2.2.1, 7, Sum.inr (Sum.inr (Sum.inr (Sum.inr (fun i => if i < 7 then some (gb_ad q0 g a b pa h u qm v (gm_P i)) else none)))))) = _
    congr 8
    funext i
    unfold gb_fp
    rw [ad_0]
  rw [gb_wK, w_PL (D := D) (q0 := q0) (g := g) (a := a) (b := b) (pa := pa) (qm := qm) (v := v) 7 (Nat.le_refl 7), gb_nms, List.map_append, List.map_append, List.map_flatMap]
  congr 1
  congr 1
  · show _ = [gb_F (gb_E D K4 q0 g a b pa h u qm v) 0, gb_F (gb_E D K4 q0 g a b pa h u qm v) 1, gb_F (gb_E D K4 q0 g a b pa h u qm v) 2, gb_F (gb_E D K4 q0 g a b pa h u qm v) 3, gb_F (gb_E D K4 q0 g a b pa h u qm v) 4]
    rw [e4]
    rfl
end WLD
theorem nms_P {E : gm_E} {H : Heap} (hP : va_P E.1 vwCl (gb_nms.map (gb_F E)) H) : va_P E.1 vwCl (gm_w E gb_σ) H := by
  intro k q hk
  obtain ⟨y, h1, h2, h3⟩ := gm_adr E gb_σ k q.1 q.2 hk
  obtain ⟨i, hi⟩ := List.mem_iff_getElem?.mp (gb_sub y (List.mem_of_getElem? h1))
  have := hP i (gb_F E y) (by rw [List.getElem?_map, hi]; rfl)
  have := gb_uncut this
  obtain ⟨q1, q2⟩ := q
  subst h2
  subst h3
  exact this
theorem nms_D {E : gm_E} {A : Nat → Prop} (hD : va_D A (gb_nms.map (gb_F E))) : va_D A (gm_w E gb_σ) := by
  have key : ∀ (k : Nat) (q : Nat × va_E), (gm_w E gb_σ)[k]? = some q → ∃ (y i : Nat), gm_names[k]? = some y ∧ q.1 = E.2.2 y ∧ gb_nms[i]? = some y := by
    intro k q hk
    obtain ⟨y, h1, h2, -⟩ := gm_adr E gb_σ k q.1 q.2 hk
    obtain ⟨i, hi⟩ := List.mem_iff_getElem?.mp (gb_sub y (List.mem_of_getElem? h1))
    exact ⟨y, i, h1, h2, hi⟩
  refine ⟨fun i j p q hi hj hpq => ?_, fun k q hk => ?_⟩
  · obtain ⟨y, a, a1, a2, a3⟩ := key i p hi
    obtain ⟨z, b, b1, b2, b3⟩ := key j q hj
    have hab := hD.1 a b (gb_F E y) (gb_F E z) (by rw [List.getElem?_map, a3]; rfl) (by rw [List.getElem?_map, b3]; rfl) (by show E.2.2 y = E.2.2 z; rw [← a2, ← b2, hpq])
    subst hab
    rw [a3] at b3
    cases b3
    exact nd_inj gm_names gm_nd i j y a1 b1
  · obtain ⟨y, a, a1, a2, a3⟩ := key k q hk
    have := hD.2 a (gb_F E y) (by rw [List.getElem?_map, a3]; rfl)
    rw [a2]
    exact this
