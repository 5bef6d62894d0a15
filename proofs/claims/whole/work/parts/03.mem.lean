/-! THE MEMORY BY NAMES. A cell has a name (a number); ad gives its address; a state is what the int fields (first) and the rows (second) hold, by name. References never change once the objects are made. -/
abbrev gm_S : Type := (Nat → Nat → Int32) × (Nat → Nat → Int32)
abbrev gm_E : Type := va_G × (ClassId × ClassId × ClassId × ClassId) × (Nat → Nat)
/-- field j of x becomes v -/
def gm_sc (σ : gm_S) (x j : Nat) (v : Int32) : gm_S := (va_up σ.1 x (upd (σ.1 x) j v), σ.2)
/-- place i of the row x becomes v -/
def gm_ar (σ : gm_S) (x i : Nat) (v : Int32) : gm_S := (σ.1, va_up σ.2 x (upd (σ.2 x) i v))
/-- the packing of k forests -/
abbrev gm_P (k : Nat) : Nat := 20 + 30 * k
def gm_names : List Nat := List.range 15 ++ (List.range 7).flatMap (fun k => (List.range (5 + 3 * k)).map (fun r => 20 + 30 * k + r))
def gm_cl (E : gm_E) (x : Nat) (f g : Nat → Int32) : va_E :=
  if x < 20 then match x with
    | 0 => .inr (3, [.ref (E.2.2 1), .ref (E.2.2 4)])
    | 1 => .inr (0, [.ref (E.2.2 2), .ref (E.2.2 3), .int (f 2), .int (f 3)])
    | 4 => .inl (E.2.1.2.2.1, 7, .inr (.inr (.inr (.inr (fun i => some (E.2.2 (gm_P i)))))))
    | 5 => .inr (4, [.int (f 0), .ref (E.2.2 6), .ref (E.2.2 7), .int (f 3), .ref (E.2.2 8), .ref (E.2.2 9), .ref (E.2.2 10), .ref (E.2.2 11), .ref (E.2.2 12), .ref (E.2.2 13), .ref (E.2.2 14)])
    | 6 => .inl (E.2.1.1, 48, .inl g)
    | 7 => .inl (E.2.1.2.1, 24, .inl g)
    | 9 => .inl (E.2.1.2.1, 24, .inl g)
    | 13 => .inl (E.2.1.1, 10, .inl g)
    | _ => .inl (E.2.1.1, 24, .inl g)
  else if (x - 20) % 30 = 0 then .inr (1, [.ref (E.2.2 (x + 1)), .int (f 1), .int (f 2), .ref (E.2.2 (x + 4)), .int (f 4), .int (f 5), .int (f 6), .ref (E.2.2 (x + 2)), .int (f 8), .ref (E.2.2 (x + 3)), .int (f 10), .int (f 11)])
  else if (x - 20) % 30 < 4 then .inl (E.2.1.1, 24, .inl g)
  else if (x - 20) % 30 = 4 then .inl (E.2.1.2.2.2, (x - 20) / 30, .inr (.inr (.inr (.inr (fun i => some (E.2.2 (x + 1 + 3 * i)))))))
  else if (x - 20) % 30 % 3 = 2 then .inr (2, [.ref (E.2.2 (x + 1)), .ref (E.2.2 (x + 2))])
  else .inl (E.2.1.1, 10, .inl g)
def gm_cell (E : gm_E) (σ : gm_S) (x : Nat) : va_E := gm_cl E x (σ.1 x) (σ.2 x)
def gm_w (E : gm_E) (σ : gm_S) : va_W := gm_names.map (fun x => (E.2.2 x, gm_cell E σ x))
def gm_tys (E : gm_E) : List (ClassId × FieldType) := [(E.2.1.1, .int), (E.2.1.2.1, .boolean), (E.2.1.2.2.1, .object "ForestPacker$Packing"), (E.2.1.2.2.2, .object "ForestPacker$RootedForest")]
theorem gm_in_lo {x : Nat} (h : x < 15) : x ∈ gm_names := List.mem_append_left _ (List.mem_range.mpr h)
theorem gm_in_P {k r : Nat} (hk : k < 7) (hr : r < 5 + 3 * k) : gm_P k + r ∈ gm_names := List.mem_append_right _ (List.mem_flatMap.mpr ⟨k, List.mem_range.mpr hk, List.mem_map.mpr ⟨r, List.mem_range.mpr hr, rfl⟩⟩)
theorem gm_at {E : gm_E} (σ : gm_S) {x : Nat} (hx : x ∈ gm_names) : ∃ q : Nat, (gm_w E σ)[q]? = some (E.2.2 x, gm_cell E σ x) := by
  apply List.getElem?_of_mem
  exact List.mem_map.mpr ⟨x, hx, rfl⟩
theorem gm_adr (E : gm_E) (σ : gm_S) (j : Nat) (a : Nat) (e : va_E) (h : (gm_w E σ)[j]? = some (a, e)) : ∃ y, gm_names[j]? = some y ∧ a = E.2.2 y ∧ e = gm_cell E σ y := by
  simp only [gm_w, List.getElem?_map] at h
  cases hb : gm_names[j]? with
  | none => rw [hb] at h; cases h
  | some y =>
    rw [hb] at h
    cases h
    exact ⟨y, rfl, rfl, rfl⟩
theorem gm_set {A : Nat → Prop} {E : gm_E} {σ σ' : gm_S} {x q : Nat} {e : va_E} (hx : x ∈ gm_names) (hD : va_D A (gm_w E σ)) (hq : (gm_w E σ)[q]? = some (E.2.2 x, gm_cell E σ x)) (he : gm_cell E σ' x = e) (ho : ∀ y, y ≠ x → gm_cell E σ' y = gm_cell E σ y) : (gm_w E σ).set q (E.2.2 x, e) = gm_w E σ' := by
  have hl := (List.getElem?_eq_some_iff.mp hq).1
  obtain ⟨i, hi⟩ := List.getElem?_of_mem hx
  have hwi : (gm_w E σ)[i]? = some (E.2.2 x, gm_cell E σ x) := by simp only [gm_w, List.getElem?_map, hi]; rfl
  have hiq : i = q := hD.1 i q _ _ hwi hq rfl
  subst hiq
  apply List.ext_getElem?
  intro j
  by_cases hj : j = i
  · subst hj
    rw [List.getElem?_set_self hl]
    simp only [gm_w, List.getElem?_map, hi, Option.map_some, he]
  · rw [List.getElem?_set_ne (Ne.symm hj)]
    simp only [gm_w, List.getElem?_map]
    cases hb : gm_names[j]? with
    | none => rfl
    | some y =>
      have hyx : y ≠ x := by
        intro h
        subst h
        have h2 : (gm_w E σ)[j]? = some (E.2.2 y, gm_cell E σ y) := by simp only [gm_w, List.getElem?_map, hb]; rfl
        exact hj (hD.1 j i _ _ h2 hq rfl)
      simp only [Option.map_some, ho y hyx]
theorem gm_sc_o {E : gm_E} {σ : gm_S} {x j : Nat} {v : Int32} (y : Nat) (h : y ≠ x) : gm_cell E (gm_sc σ x j v) y = gm_cell E σ y := by
  simp only [gm_cell, gm_sc, va_up_ne _ _ h]
theorem gm_ar_o {E : gm_E} {σ : gm_S} {x j : Nat} {v : Int32} (y : Nat) (h : y ≠ x) : gm_cell E (gm_ar σ x j v) y = gm_cell E σ y := by
  simp only [gm_cell, gm_ar, va_up_ne _ _ h]
theorem gm_sc_s {E : gm_E} {σ : gm_S} {x j : Nat} {v : Int32} : gm_cell E (gm_sc σ x j v) x = gm_cl E x (upd (σ.1 x) j v) (σ.2 x) := by
  simp only [gm_cell, gm_sc, va_up_self]
theorem gm_ar_s {E : gm_E} {σ : gm_S} {x j : Nat} {v : Int32} : gm_cell E (gm_ar σ x j v) x = gm_cl E x (σ.1 x) (upd (σ.2 x) j v) := by
  simp only [gm_cell, gm_ar, va_up_self]
/-! the kinds -/
theorem gm_cP (E : gm_E) (k : Nat) (f g : Nat → Int32) : gm_cl E (gm_P k) f g = .inr (1, [.ref (E.2.2 (gm_P k + 1)), .int (f 1), .int (f 2), .ref (E.2.2 (gm_P k + 4)), .int (f 4), .int (f 5), .int (f 6), .ref (E.2.2 (gm_P k + 2)), .int (f 8), .ref (E.2.2 (gm_P k + 3)), .int (f 10), .int (f 11)]) := by
  unfold gm_cl
  rw [if_neg (by show ¬ 20 + 30 * k < 20; omega), if_pos (by show (20 + 30 * k - 20) % 30 = 0; omega)]
theorem gm_cR (E : gm_E) (k r : Nat) (h1 : 1 ≤ r) (h2 : r < 4) (f g : Nat → Int32) : gm_cl E (gm_P k + r) f g = .inl (E.2.1.1, 24, .inl g) := by
  unfold gm_cl
  rw [if_neg (by show ¬ 20 + 30 * k + r < 20; omega), if_neg (by show ¬ (20 + 30 * k + r - 20) % 30 = 0; omega), if_pos (by show (20 + 30 * k + r - 20) % 30 < 4; omega)]
theorem gm_cF (E : gm_E) (k : Nat) (f g : Nat → Int32) : gm_cl E (gm_P k + 4) f g = .inl (E.2.1.2.2.2, k, .inr (.inr (.inr (.inr (fun i => some (E.2.2 (gm_P k + 5 + 3 * i))))))) := by
  unfold gm_cl
  rw [if_neg (by show ¬ 20 + 30 * k + 4 < 20; omega), if_neg (by show ¬ (20 + 30 * k + 4 - 20) % 30 = 0; omega), if_neg (by show ¬ (20 + 30 * k + 4 - 20) % 30 < 4; omega), if_pos (by show (20 + 30 * k + 4 - 20) % 30 = 4; omega), show (20 + 30 * k + 4 - 20) / 30 = k by omega]
theorem gm_cT (E : gm_E) (k i : Nat) (hi : i < 7) (f g : Nat → Int32) : gm_cl E (gm_P k + 5 + 3 * i) f g = .inr (2, [.ref (E.2.2 (gm_P k + 5 + 3 * i + 1)), .ref (E.2.2 (gm_P k + 5 + 3 * i + 2))]) := by
  unfold gm_cl
  rw [if_neg (by show ¬ 20 + 30 * k + 5 + 3 * i < 20; omega), if_neg (by show ¬ (20 + 30 * k + 5 + 3 * i - 20) % 30 = 0; omega), if_neg (by show ¬ (20 + 30 * k + 5 + 3 * i - 20) % 30 < 4; omega), if_neg (by show ¬ (20 + 30 * k + 5 + 3 * i - 20) % 30 = 4; omega), if_pos (by show (20 + 30 * k + 5 + 3 * i - 20) % 30 % 3 = 2; omega)]
theorem gm_cU (E : gm_E) (k i r : Nat) (hi : i < 7) (h1 : 1 ≤ r) (h2 : r < 3) (f g : Nat → Int32) : gm_cl E (gm_P k + 5 + 3 * i + r) f g = .inl (E.2.1.1, 10, .inl g) := by
  unfold gm_cl
  rw [if_neg (by show ¬ 20 + 30 * k + 5 + 3 * i + r < 20; omega), if_neg (by show ¬ (20 + 30 * k + 5 + 3 * i + r - 20) % 30 = 0; omega), if_neg (by show ¬ (20 + 30 * k + 5 + 3 * i + r - 20) % 30 < 4; omega), if_neg (by show ¬ (20 + 30 * k + 5 + 3 * i + r - 20) % 30 = 4; omega), if_neg (by show ¬ (20 + 30 * k + 5 + 3 * i + r - 20) % 30 % 3 = 2; omega)]
/-- x is a row of n ints -/
def gm_isI (E : gm_E) (x n : Nat) : Prop := x ∈ gm_names ∧ ∀ f g, gm_cl E x f g = .inl (E.2.1.1, n, .inl g)
def gm_isZ (E : gm_E) (x n : Nat) : Prop := x ∈ gm_names ∧ ∀ f g, gm_cl E x f g = .inl (E.2.1.2.1, n, .inl g)
/-- x is an object: the number of its class, its fields out of the ints that it holds -/
def gm_isO (E : gm_E) (x ci : Nat) (fs : (Nat → Int32) → List Value) : Prop := x ∈ gm_names ∧ ∀ f g, gm_cl E x f g = .inr (ci, fs f)

theorem gm_i2 (E : gm_E) : gm_isI E 2 24 := ⟨gm_in_lo (by decide), fun _ _ => rfl⟩
theorem gm_i3 (E : gm_E) : gm_isI E 3 24 := ⟨gm_in_lo (by decide), fun _ _ => rfl⟩
theorem gm_i6 (E : gm_E) : gm_isI E 6 48 := ⟨gm_in_lo (by decide), fun _ _ => rfl⟩
theorem gm_i8 (E : gm_E) : gm_isI E 8 24 := ⟨gm_in_lo (by decide), fun _ _ => rfl⟩
theorem gm_i10 (E : gm_E) : gm_isI E 10 24 := ⟨gm_in_lo (by decide), fun _ _ => rfl⟩
theorem gm_i11 (E : gm_E) : gm_isI E 11 24 := ⟨gm_in_lo (by decide), fun _ _ => rfl⟩
theorem gm_i12 (E : gm_E) : gm_isI E 12 24 := ⟨gm_in_lo (by decide), fun _ _ => rfl⟩
theorem gm_i13 (E : gm_E) : gm_isI E 13 10 := ⟨gm_in_lo (by decide), fun _ _ => rfl⟩
theorem gm_i14 (E : gm_E) : gm_isI E 14 24 := ⟨gm_in_lo (by decide), fun _ _ => rfl⟩
theorem gm_i7 (E : gm_E) : gm_isZ E 7 24 := ⟨gm_in_lo (by decide), fun _ _ => rfl⟩
theorem gm_i9 (E : gm_E) : gm_isZ E 9 24 := ⟨gm_in_lo (by decide), fun _ _ => rfl⟩
theorem gm_iR (E : gm_E) {k : Nat} (hk : k < 7) (r : Nat) (h1 : 1 ≤ r) (h2 : r < 4) : gm_isI E (gm_P k + r) 24 := ⟨gm_in_P hk (by omega), fun f g => gm_cR E k r h1 h2 f g⟩
theorem gm_iU (E : gm_E) {k i : Nat} (hk : k < 7) (hi : i < k) (r : Nat) (h1 : 1 ≤ r) (h2 : r < 3) : gm_isI E (gm_P k + 5 + 3 * i + r) 10 := ⟨by rw [Nat.add_assoc, Nat.add_assoc]; exact gm_in_P hk (by omega), fun f g => gm_cU E k i r (by omega) h1 h2 f g⟩
def gm_f0 (E : gm_E) : (Nat → Int32) → List Value := fun f => [.ref (E.2.2 2), .ref (E.2.2 3), .int (f 2), .int (f 3)]
def gm_f1 (E : gm_E) (x : Nat) : (Nat → Int32) → List Value := fun f => [.ref (E.2.2 (x + 1)), .int (f 1), .int (f 2), .ref (E.2.2 (x + 4)), .int (f 4), .int (f 5), .int (f 6), .ref (E.2.2 (x + 2)), .int (f 8), .ref (E.2.2 (x + 3)), .int (f 10), .int (f 11)]
def gm_f2 (E : gm_E) (x : Nat) : (Nat → Int32) → List Value := fun _ => [.ref (E.2.2 (x + 1)), .ref (E.2.2 (x + 2))]
def gm_f3 (E : gm_E) : (Nat → Int32) → List Value := fun _ => [.ref (E.2.2 1), .ref (E.2.2 4)]
def gm_f4 (E : gm_E) : (Nat → Int32) → List Value := fun f => [.int (f 0), .ref (E.2.2 6), .ref (E.2.2 7), .int (f 3), .ref (E.2.2 8), .ref (E.2.2 9), .ref (E.2.2 10), .ref (E.2.2 11), .ref (E.2.2 12), .ref (E.2.2 13), .ref (E.2.2 14)]
theorem gm_o0 (E : gm_E) : gm_isO E 1 0 (gm_f0 E) := ⟨gm_in_lo (by decide), fun _ _ => rfl⟩
theorem gm_o1 (E : gm_E) {k : Nat} (hk : k < 7) : gm_isO E (gm_P k) 1 (gm_f1 E (gm_P k)) := ⟨gm_in_P (r := 0) hk (by omega), fun f g => gm_cP E k f g⟩
theorem gm_o2 (E : gm_E) {k i : Nat} (hk : k < 7) (hi : i < k) : gm_isO E (gm_P k + 5 + 3 * i) 2 (gm_f2 E (gm_P k + 5 + 3 * i)) := ⟨by rw [Nat.add_assoc]; exact gm_in_P hk (by omega), fun f g => gm_cT E k i (by omega) f g⟩
theorem gm_o3 (E : gm_E) : gm_isO E 0 3 (gm_f3 E) := ⟨gm_in_lo (by decide), fun _ _ => rfl⟩
theorem gm_o4 (E : gm_E) : gm_isO E 5 4 (gm_f4 E) := ⟨gm_in_lo (by decide), fun _ _ => rfl⟩
/-! THE JUDGEMENT. X: the machine's fixed things of one call; gm_G: from pc with locals lo, stack st and memory σ the machine comes to the call's end as Q says. -/
abbrev gm_X : Type := Program × Launch × Env × Room × State × MethodId × Array Value × List Frame × Method × Code × Nat × Nat × (State → Prop) × (Nat → Prop)
def gm_lo (ls : Array Slot) (nL : Nat) (lo : List (Option Value)) : Prop := ls.size = nL ∧ lv_wf ls ∧ ∀ (k : Nat) (v : Value), lo[k]? = some (some v) → v.category = 1 ∧ ls[k]? = some (.val v)
def gm_G (X : gm_X) (E : gm_E) (nL pc : Nat) (lo : List (Option Value)) (st : List Value) (σ : gm_S) : Prop :=
  match X with
  | (p, l, e, R, s, m, args, below, meth, c, cells, slots, Q, A) => ∀ (H : Heap) (locs : List Loc) (ls : Array Slot), va_P E.1 vwCl (gm_w E σ) H → va_D A (gm_w E σ) → va_S A s.heap H locs → gm_lo ls nL lo → W p l e R s m args below meth c H locs cells slots Q (F0 m pc ls st)
def gm_ok (X : gm_X) (E : gm_E) (cc : ByteArray) (nL : Nat) (own : String) (Ts : List Cond) (rm : Room) : Prop :=
  match X with
  | (p, _, _, R, s, m, args, _, meth, c, cells, slots, _, A) => p.tables.exec = Jvm.exec ∧ c.code = cc ∧ c.maxLocals = nL ∧ s.vm.findClass own = some m.cls ∧ (∀ w ∈ Ts, w.before args s = true) ∧ va_K E.1 vwCl (gm_tys E) s ∧ R = rm ∧ (∀ x ∈ gm_names, A (E.2.2 x)) ∧ (∀ q, s.heap.size ≤ q → A q) ∧ meth.locks = false ∧ cells ≤ rm.cells ∧ slots ≤ rm.slots
def gm_prs (lo : List (Option Value)) : List (Nat × Value) := (List.range lo.length).filterMap (fun k => match lo[k]? with | some (some v) => some (k, v) | _ => none)
theorem gm_prs_mem {lo : List (Option Value)} {q : Nat × Value} : q ∈ gm_prs lo ↔ lo[q.1]? = some (some q.2) := by
  simp only [gm_prs, List.mem_filterMap, List.mem_range]
  constructor
  · rintro ⟨k, hk, h⟩
    split at h
    · rename_i v hv; cases h; exact hv
    · cases h
  · intro h
    exact ⟨q.1, (List.getElem?_eq_some_iff.mp h).1, by rw [h]⟩
theorem gm_lo_has {ls : Array Slot} {nL : Nat} {lo : List (Option Value)} (h : gm_lo ls nL lo) : lv_has ls nL (gm_prs lo) := ⟨h.1, h.2.1, fun _ hq => (h.2.2 _ _ (gm_prs_mem.mp hq)).2⟩
theorem gm_lo_set {ls ls' : Array Slot} {nL i : Nat} {v : Value} {lo : List (Option Value)} (h : gm_lo ls nL lo) (hc : v.category = 1) (h' : lv_has ls' nL ((i, v) :: (gm_prs lo).filter (fun q => !(q.1 == i) && !(q.1 + 1 == i && q.2.category == 2)))) : gm_lo ls' nL (lo.set i (some v)) := by
  refine ⟨h'.1, h'.2.1, fun k w hk => ?_⟩
  by_cases hki : k = i
  · subst hki
    have hl : k < lo.length := by
      have := (List.getElem?_eq_some_iff.mp hk).1
      simpa using this
    rw [List.getElem?_set_self hl] at hk
    cases hk
    exact ⟨hc, h'.2.2 (k, v) List.mem_cons_self⟩
  · rw [List.getElem?_set_ne (Ne.symm hki)] at hk
    obtain ⟨h1, -⟩ := h.2.2 k w hk
    refine ⟨h1, h'.2.2 (k, w) (List.mem_cons_of_mem _ (List.mem_filter.mpr ⟨gm_prs_mem.mpr hk, ?_⟩))⟩
    simp [hki, h1]

section GM
variable {X : gm_X} {E : gm_E} {cc : ByteArray} {nL pc : Nat} {own : String} {Ts : List Cond} {rm : Room} {lo : List (Option Value)} {st : List Value} {σ : gm_S}
theorem gi_const (hC : gm_ok X E cc nL own Ts rm) {n : Int} {v : Int32} (d : decode cc pc = .ok (.iconst n, 1)) (hv : Int32.ofInt n = v) (k : gm_G X E nL (pc + 1) lo (.int v :: st) σ) : gm_G X E nL pc lo st σ := by
  obtain ⟨p, l, e, R, s, m, args, below, meth, c, cells, slots, Q, A⟩ := X
  intro H locs ls hP hD hS hl
  exact lv_iconst hC.1 hC.2.1 d hv (k H locs ls hP hD hS hl)
theorem gi_bipush (hC : gm_ok X E cc nL own Ts rm) {n : Int} {v : Int32} (d : decode cc pc = .ok (.bipush n, 2)) (hv : (Int8.ofInt n).toInt32 = v) (k : gm_G X E nL (pc + 2) lo (.int v :: st) σ) : gm_G X E nL pc lo st σ := by
  obtain ⟨p, l, e, R, s, m, args, below, meth, c, cells, slots, Q, A⟩ := X
  intro H locs ls hP hD hS hl
  exact lv_bipush hC.1 hC.2.1 d hv (k H locs ls hP hD hS hl)
theorem gi_ldcw (hC : gm_ok X E cc nL own Ts rm) {n : Nat} {v : Int32} (d : decode cc pc = .ok (.ldc_w n, 3)) (hv : (Jvm.Cond.constant own n v) ∈ Ts) (k : gm_G X E nL (pc + 3) lo (.int v :: st) σ) : gm_G X E nL pc lo st σ := by
  obtain ⟨p, l, e, R, s, m, args, below, meth, c, cells, slots, Q, A⟩ := X
  intro H locs ls hP hD hS hl
  exact lv_ldcw hC.1 hC.2.1 hC.2.2.2.1 (hC.2.2.2.2.1 _ hv) d (k H locs ls hP hD hS hl)
theorem gi_ildn (hC : gm_ok X E cc nL own Ts rm) {i : Fin 4} {x : Int32} (d : decode cc pc = .ok (.iload_n i, 1)) (hv : lo[(i : Nat)]? = some (some (.int x))) (k : gm_G X E nL (pc + 1) lo (.int x :: st) σ) : gm_G X E nL pc lo st σ := by
  obtain ⟨p, l, e, R, s, m, args, below, meth, c, cells, slots, Q, A⟩ := X
  intro H locs ls hP hD hS hl
  exact lv_iload_n hC.1 hC.2.1 d rfl (hl.2.2 _ _ hv).2 (k H locs ls hP hD hS hl)
theorem gi_ild (hC : gm_ok X E cc nL own Ts rm) {i : Nat} {x : Int32} (d : decode cc pc = .ok (.iload i, 2)) (hv : lo[i]? = some (some (.int x))) (k : gm_G X E nL (pc + 2) lo (.int x :: st) σ) : gm_G X E nL pc lo st σ := by
  obtain ⟨p, l, e, R, s, m, args, below, meth, c, cells, slots, Q, A⟩ := X
  intro H locs ls hP hD hS hl
  exact lv_iload hC.1 hC.2.1 d (hl.2.2 _ _ hv).2 (k H locs ls hP hD hS hl)
theorem gi_aldn (hC : gm_ok X E cc nL own Ts rm) {i : Fin 4} {x : Nat} (d : decode cc pc = .ok (.aload_n i, 1)) (hv : lo[(i : Nat)]? = some (some (.ref x))) (k : gm_G X E nL (pc + 1) lo (.ref x :: st) σ) : gm_G X E nL pc lo st σ := by
  obtain ⟨p, l, e, R, s, m, args, below, meth, c, cells, slots, Q, A⟩ := X
  intro H locs ls hP hD hS hl
  exact lv_aload_n hC.1 hC.2.1 d rfl (hl.2.2 _ _ hv).2 (k H locs ls hP hD hS hl)
theorem gi_ald (hC : gm_ok X E cc nL own Ts rm) {i : Nat} {x : Nat} (d : decode cc pc = .ok (.aload i, 2)) (hv : lo[i]? = some (some (.ref x))) (k : gm_G X E nL (pc + 2) lo (.ref x :: st) σ) : gm_G X E nL pc lo st σ := by
  obtain ⟨p, l, e, R, s, m, args, below, meth, c, cells, slots, Q, A⟩ := X
  intro H locs ls hP hD hS hl
  exact lv_aload hC.1 hC.2.1 d (hl.2.2 _ _ hv).2 (k H locs ls hP hD hS hl)
theorem gi_istn0 (hC : gm_ok X E cc nL own Ts rm) {i : Fin 4} {x : Int32} (d : decode cc pc = .ok (.istore_n i, 1)) (hn : (i : Nat) < nL) (k : gm_G X E nL (pc + 1) (lo.set (i : Nat) (some (.int x))) st σ) : gm_G X E nL pc lo (.int x :: st) σ := by
  obtain ⟨p, l, e, R, s, m, args, below, meth, c, cells, slots, Q, A⟩ := X
  intro H locs ls hP hD hS hl
  exact lv_istore_n hC.1 hC.2.1 d rfl (gm_lo_has hl) hn rfl (fun ls2 h2 => k H locs ls2 hP hD hS (gm_lo_set hl rfl h2))
theorem gi_ist0 (hC : gm_ok X E cc nL own Ts rm) {i : Nat} {x : Int32} (d : decode cc pc = .ok (.istore i, 2)) (hn : i < nL) (k : gm_G X E nL (pc + 2) (lo.set i (some (.int x))) st σ) : gm_G X E nL pc lo (.int x :: st) σ := by
  obtain ⟨p, l, e, R, s, m, args, below, meth, c, cells, slots, Q, A⟩ := X
  intro H locs ls hP hD hS hl
  exact lv_istore hC.1 hC.2.1 d (gm_lo_has hl) hn rfl (fun ls2 h2 => k H locs ls2 hP hD hS (gm_lo_set hl rfl h2))
theorem gi_astn0 (hC : gm_ok X E cc nL own Ts rm) {i : Fin 4} {x : Nat} (d : decode cc pc = .ok (.astore_n i, 1)) (hn : (i : Nat) < nL) (k : gm_G X E nL (pc + 1) (lo.set (i : Nat) (some (.ref x))) st σ) : gm_G X E nL pc lo (.ref x :: st) σ := by
  obtain ⟨p, l, e, R, s, m, args, below, meth, c, cells, slots, Q, A⟩ := X
  intro H locs ls hP hD hS hl
  exact lv_astore_n hC.1 hC.2.1 d rfl (gm_lo_has hl) hn rfl (fun ls2 h2 => k H locs ls2 hP hD hS (gm_lo_set hl rfl h2))
theorem gi_ast0 (hC : gm_ok X E cc nL own Ts rm) {i : Nat} {x : Nat} (d : decode cc pc = .ok (.astore i, 2)) (hn : i < nL) (k : gm_G X E nL (pc + 2) (lo.set i (some (.ref x))) st σ) : gm_G X E nL pc lo (.ref x :: st) σ := by
  obtain ⟨p, l, e, R, s, m, args, below, meth, c, cells, slots, Q, A⟩ := X
  intro H locs ls hP hD hS hl
  exact lv_astore hC.1 hC.2.1 d (gm_lo_has hl) hn rfl (fun ls2 h2 => k H locs ls2 hP hD hS (gm_lo_set hl rfl h2))
theorem gi_iinc0 (hC : gm_ok X E cc nL own Ts rm) {i : Nat} {n : Int} {x v : Int32} (d : decode cc pc = .ok (.iinc i n, 3)) (hx : lo[i]? = some (some (.int x))) (hv : x + Int32.ofInt n = v) (hn : i < nL) (k : gm_G X E nL (pc + 3) (lo.set i (some (.int v))) st σ) : gm_G X E nL pc lo st σ := by
  obtain ⟨p, l, e, R, s, m, args, below, meth, c, cells, slots, Q, A⟩ := X
  intro H locs ls hP hD hS hl
  obtain ⟨j, hj⟩ := List.getElem?_of_mem (gm_prs_mem (lo := lo) (q := (i, .int x)) |>.mpr hx)
  exact lv_iinc hC.1 hC.2.1 d (gm_lo_has hl) hj hv hn rfl (fun ls2 h2 => k H locs ls2 hP hD hS (gm_lo_set hl rfl h2))
theorem gi_istn_0 (hC : gm_ok X E cc nL own Ts rm) {x : Int32} {a0 : Option Value} {tl : List (Option Value)} (d : decode cc pc = .ok (.istore_n 0, 1)) (hn : 0 < nL) (k : gm_G X E nL (pc + 1) (some (.int x) :: tl) st σ) : gm_G X E nL pc (a0 :: tl) (.int x :: st) σ := gi_istn0 hC (i := 0) d hn k
theorem gi_astn_0 (hC : gm_ok X E cc nL own Ts rm) {x : Nat} {a0 : Option Value} {tl : List (Option Value)} (d : decode cc pc = .ok (.astore_n 0, 1)) (hn : 0 < nL) (k : gm_G X E nL (pc + 1) (some (.ref x) :: tl) st σ) : gm_G X E nL pc (a0 :: tl) (.ref x :: st) σ := gi_astn0 hC (i := 0) d hn k
theorem gi_iinc_0 (hC : gm_ok X E cc nL own Ts rm) {n : Int} {x v : Int32} {tl : List (Option Value)} (d : decode cc pc = .ok (.iinc 0 n, 3)) (hv : x + Int32.ofInt n = v) (hn : 0 < nL) (k : gm_G X E nL (pc + 3) (some (.int v) :: tl) st σ) : gm_G X E nL pc (some (.int x) :: tl) st σ := gi_iinc0 hC (i := 0) d rfl hv hn k
theorem gi_istn_1 (hC : gm_ok X E cc nL own Ts rm) {x : Int32} {a0 a1 : Option Value} {tl : List (Option Value)} (d : decode cc pc = .ok (.istore_n 1, 1)) (hn : 1 < nL) (k : gm_G X E nL (pc + 1) (a0 :: some (.int x) :: tl) st σ) : gm_G X E nL pc (a0 :: a1 :: tl) (.int x :: st) σ := gi_istn0 hC (i := 1) d hn k
theorem gi_astn_1 (hC : gm_ok X E cc nL own Ts rm) {x : Nat} {a0 a1 : Option Value} {tl : List (Option Value)} (d : decode cc pc = .ok (.astore_n 1, 1)) (hn : 1 < nL) (k : gm_G X E nL (pc + 1) (a0 :: some (.ref x) :: tl) st σ) : gm_G X E nL pc (a0 :: a1 :: tl) (.ref x :: st) σ := gi_astn0 hC (i := 1) d hn k
theorem gi_iinc_1 (hC : gm_ok X E cc nL own Ts rm) {n : Int} {x v : Int32} {a0 : Option Value} {tl : List (Option Value)} (d : decode cc pc = .ok (.iinc 1 n, 3)) (hv : x + Int32.ofInt n = v) (hn : 1 < nL) (k : gm_G X E nL (pc + 3) (a0 :: some (.int v) :: tl) st σ) : gm_G X E nL pc (a0 :: some (.int x) :: tl) st σ := gi_iinc0 hC (i := 1) d rfl hv hn k
theorem gi_istn_2 (hC : gm_ok X E cc nL own Ts rm) {x : Int32} {a0 a1 a2 : Option Value} {tl : List (Option Value)} (d : decode cc pc = .ok (.istore_n 2, 1)) (hn : 2 < nL) (k : gm_G X E nL (pc + 1) (a0 :: a1 :: some (.int x) :: tl) st σ) : gm_G X E nL pc (a0 :: a1 :: a2 :: tl) (.int x :: st) σ := gi_istn0 hC (i := 2) d hn k
theorem gi_astn_2 (hC : gm_ok X E cc nL own Ts rm) {x : Nat} {a0 a1 a2 : Option Value} {tl : List (Option Value)} (d : decode cc pc = .ok (.astore_n 2, 1)) (hn : 2 < nL) (k : gm_G X E nL (pc + 1) (a0 :: a1 :: some (.ref x) :: tl) st σ) : gm_G X E nL pc (a0 :: a1 :: a2 :: tl) (.ref x :: st) σ := gi_astn0 hC (i := 2) d hn k
theorem gi_iinc_2 (hC : gm_ok X E cc nL own Ts rm) {n : Int} {x v : Int32} {a0 a1 : Option Value} {tl : List (Option Value)} (d : decode cc pc = .ok (.iinc 2 n, 3)) (hv : x + Int32.ofInt n = v) (hn : 2 < nL) (k : gm_G X E nL (pc + 3) (a0 :: a1 :: some (.int v) :: tl) st σ) : gm_G X E nL pc (a0 :: a1 :: some (.int x) :: tl) st σ := gi_iinc0 hC (i := 2) d rfl hv hn k
theorem gi_istn_3 (hC : gm_ok X E cc nL own Ts rm) {x : Int32} {a0 a1 a2 a3 : Option Value} {tl : List (Option Value)} (d : decode cc pc = .ok (.istore_n 3, 1)) (hn : 3 < nL) (k : gm_G X E nL (pc + 1) (a0 :: a1 :: a2 :: some (.int x) :: tl) st σ) : gm_G X E nL pc (a0 :: a1 :: a2 :: a3 :: tl) (.int x :: st) σ := gi_istn0 hC (i := 3) d hn k
theorem gi_astn_3 (hC : gm_ok X E cc nL own Ts rm) {x : Nat} {a0 a1 a2 a3 : Option Value} {tl : List (Option Value)} (d : decode cc pc = .ok (.astore_n 3, 1)) (hn : 3 < nL) (k : gm_G X E nL (pc + 1) (a0 :: a1 :: a2 :: some (.ref x) :: tl) st σ) : gm_G X E nL pc (a0 :: a1 :: a2 :: a3 :: tl) (.ref x :: st) σ := gi_astn0 hC (i := 3) d hn k
theorem gi_iinc_3 (hC : gm_ok X E cc nL own Ts rm) {n : Int} {x v : Int32} {a0 a1 a2 : Option Value} {tl : List (Option Value)} (d : decode cc pc = .ok (.iinc 3 n, 3)) (hv : x + Int32.ofInt n = v) (hn : 3 < nL) (k : gm_G X E nL (pc + 3) (a0 :: a1 :: a2 :: some (.int v) :: tl) st σ) : gm_G X E nL pc (a0 :: a1 :: a2 :: some (.int x) :: tl) st σ := gi_iinc0 hC (i := 3) d rfl hv hn k
theorem gi_ist_4 (hC : gm_ok X E cc nL own Ts rm) {x : Int32} {a0 a1 a2 a3 a4 : Option Value} {tl : List (Option Value)} (d : decode cc pc = .ok (.istore 4, 2)) (hn : 4 < nL) (k : gm_G X E nL (pc + 2) (a0 :: a1 :: a2 :: a3 :: some (.int x) :: tl) st σ) : gm_G X E nL pc (a0 :: a1 :: a2 :: a3 :: a4 :: tl) (.int x :: st) σ := gi_ist0 hC (i := 4) d hn k
theorem gi_ast_4 (hC : gm_ok X E cc nL own Ts rm) {x : Nat} {a0 a1 a2 a3 a4 : Option Value} {tl : List (Option Value)} (d : decode cc pc = .ok (.astore 4, 2)) (hn : 4 < nL) (k : gm_G X E nL (pc + 2) (a0 :: a1 :: a2 :: a3 :: some (.ref x) :: tl) st σ) : gm_G X E nL pc (a0 :: a1 :: a2 :: a3 :: a4 :: tl) (.ref x :: st) σ := gi_ast0 hC (i := 4) d hn k
theorem gi_iinc_4 (hC : gm_ok X E cc nL own Ts rm) {n : Int} {x v : Int32} {a0 a1 a2 a3 : Option Value} {tl : List (Option Value)} (d : decode cc pc = .ok (.iinc 4 n, 3)) (hv : x + Int32.ofInt n = v) (hn : 4 < nL) (k : gm_G X E nL (pc + 3) (a0 :: a1 :: a2 :: a3 :: some (.int v) :: tl) st σ) : gm_G X E nL pc (a0 :: a1 :: a2 :: a3 :: some (.int x) :: tl) st σ := gi_iinc0 hC (i := 4) d rfl hv hn k
theorem gi_ist_5 (hC : gm_ok X E cc nL own Ts rm) {x : Int32} {a0 a1 a2 a3 a4 a5 : Option Value} {tl : List (Option Value)} (d : decode cc pc = .ok (.istore 5, 2)) (hn : 5 < nL) (k : gm_G X E nL (pc + 2) (a0 :: a1 :: a2 :: a3 :: a4 :: some (.int x) :: tl) st σ) : gm_G X E nL pc (a0 :: a1 :: a2 :: a3 :: a4 :: a5 :: tl) (.int x :: st) σ := gi_ist0 hC (i := 5) d hn k
theorem gi_ast_5 (hC : gm_ok X E cc nL own Ts rm) {x : Nat} {a0 a1 a2 a3 a4 a5 : Option Value} {tl : List (Option Value)} (d : decode cc pc = .ok (.astore 5, 2)) (hn : 5 < nL) (k : gm_G X E nL (pc + 2) (a0 :: a1 :: a2 :: a3 :: a4 :: some (.ref x) :: tl) st σ) : gm_G X E nL pc (a0 :: a1 :: a2 :: a3 :: a4 :: a5 :: tl) (.ref x :: st) σ := gi_ast0 hC (i := 5) d hn k
theorem gi_iinc_5 (hC : gm_ok X E cc nL own Ts rm) {n : Int} {x v : Int32} {a0 a1 a2 a3 a4 : Option Value} {tl : List (Option Value)} (d : decode cc pc = .ok (.iinc 5 n, 3)) (hv : x + Int32.ofInt n = v) (hn : 5 < nL) (k : gm_G X E nL (pc + 3) (a0 :: a1 :: a2 :: a3 :: a4 :: some (.int v) :: tl) st σ) : gm_G X E nL pc (a0 :: a1 :: a2 :: a3 :: a4 :: some (.int x) :: tl) st σ := gi_iinc0 hC (i := 5) d rfl hv hn k
theorem gi_ist_6 (hC : gm_ok X E cc nL own Ts rm) {x : Int32} {a0 a1 a2 a3 a4 a5 a6 : Option Value} {tl : List (Option Value)} (d : decode cc pc = .ok (.istore 6, 2)) (hn : 6 < nL) (k : gm_G X E nL (pc + 2) (a0 :: a1 :: a2 :: a3 :: a4 :: a5 :: some (.int x) :: tl) st σ) : gm_G X E nL pc (a0 :: a1 :: a2 :: a3 :: a4 :: a5 :: a6 :: tl) (.int x :: st) σ := gi_ist0 hC (i := 6) d hn k
theorem gi_ast_6 (hC : gm_ok X E cc nL own Ts rm) {x : Nat} {a0 a1 a2 a3 a4 a5 a6 : Option Value} {tl : List (Option Value)} (d : decode cc pc = .ok (.astore 6, 2)) (hn : 6 < nL) (k : gm_G X E nL (pc + 2) (a0 :: a1 :: a2 :: a3 :: a4 :: a5 :: some (.ref x) :: tl) st σ) : gm_G X E nL pc (a0 :: a1 :: a2 :: a3 :: a4 :: a5 :: a6 :: tl) (.ref x :: st) σ := gi_ast0 hC (i := 6) d hn k
theorem gi_iinc_6 (hC : gm_ok X E cc nL own Ts rm) {n : Int} {x v : Int32} {a0 a1 a2 a3 a4 a5 : Option Value} {tl : List (Option Value)} (d : decode cc pc = .ok (.iinc 6 n, 3)) (hv : x + Int32.ofInt n = v) (hn : 6 < nL) (k : gm_G X E nL (pc + 3) (a0 :: a1 :: a2 :: a3 :: a4 :: a5 :: some (.int v) :: tl) st σ) : gm_G X E nL pc (a0 :: a1 :: a2 :: a3 :: a4 :: a5 :: some (.int x) :: tl) st σ := gi_iinc0 hC (i := 6) d rfl hv hn k
theorem gi_ist_7 (hC : gm_ok X E cc nL own Ts rm) {x : Int32} {a0 a1 a2 a3 a4 a5 a6 a7 : Option Value} {tl : List (Option Value)} (d : decode cc pc = .ok (.istore 7, 2)) (hn : 7 < nL) (k : gm_G X E nL (pc + 2) (a0 :: a1 :: a2 :: a3 :: a4 :: a5 :: a6 :: some (.int x) :: tl) st σ) : gm_G X E nL pc (a0 :: a1 :: a2 :: a3 :: a4 :: a5 :: a6 :: a7 :: tl) (.int x :: st) σ := gi_ist0 hC (i := 7) d hn k
theorem gi_ast_7 (hC : gm_ok X E cc nL own Ts rm) {x : Nat} {a0 a1 a2 a3 a4 a5 a6 a7 : Option Value} {tl : List (Option Value)} (d : decode cc pc = .ok (.astore 7, 2)) (hn : 7 < nL) (k : gm_G X E nL (pc + 2) (a0 :: a1 :: a2 :: a3 :: a4 :: a5 :: a6 :: some (.ref x) :: tl) st σ) : gm_G X E nL pc (a0 :: a1 :: a2 :: a3 :: a4 :: a5 :: a6 :: a7 :: tl) (.ref x :: st) σ := gi_ast0 hC (i := 7) d hn k
theorem gi_iinc_7 (hC : gm_ok X E cc nL own Ts rm) {n : Int} {x v : Int32} {a0 a1 a2 a3 a4 a5 a6 : Option Value} {tl : List (Option Value)} (d : decode cc pc = .ok (.iinc 7 n, 3)) (hv : x + Int32.ofInt n = v) (hn : 7 < nL) (k : gm_G X E nL (pc + 3) (a0 :: a1 :: a2 :: a3 :: a4 :: a5 :: a6 :: some (.int v) :: tl) st σ) : gm_G X E nL pc (a0 :: a1 :: a2 :: a3 :: a4 :: a5 :: a6 :: some (.int x) :: tl) st σ := gi_iinc0 hC (i := 7) d rfl hv hn k
theorem gi_ist_8 (hC : gm_ok X E cc nL own Ts rm) {x : Int32} {a0 a1 a2 a3 a4 a5 a6 a7 a8 : Option Value} {tl : List (Option Value)} (d : decode cc pc = .ok (.istore 8, 2)) (hn : 8 < nL) (k : gm_G X E nL (pc + 2) (a0 :: a1 :: a2 :: a3 :: a4 :: a5 :: a6 :: a7 :: some (.int x) :: tl) st σ) : gm_G X E nL pc (a0 :: a1 :: a2 :: a3 :: a4 :: a5 :: a6 :: a7 :: a8 :: tl) (.int x :: st) σ := gi_ist0 hC (i := 8) d hn k
theorem gi_ast_8 (hC : gm_ok X E cc nL own Ts rm) {x : Nat} {a0 a1 a2 a3 a4 a5 a6 a7 a8 : Option Value} {tl : List (Option Value)} (d : decode cc pc = .ok (.astore 8, 2)) (hn : 8 < nL) (k : gm_G X E nL (pc + 2) (a0 :: a1 :: a2 :: a3 :: a4 :: a5 :: a6 :: a7 :: some (.ref x) :: tl) st σ) : gm_G X E nL pc (a0 :: a1 :: a2 :: a3 :: a4 :: a5 :: a6 :: a7 :: a8 :: tl) (.ref x :: st) σ := gi_ast0 hC (i := 8) d hn k
theorem gi_iinc_8 (hC : gm_ok X E cc nL own Ts rm) {n : Int} {x v : Int32} {a0 a1 a2 a3 a4 a5 a6 a7 : Option Value} {tl : List (Option Value)} (d : decode cc pc = .ok (.iinc 8 n, 3)) (hv : x + Int32.ofInt n = v) (hn : 8 < nL) (k : gm_G X E nL (pc + 3) (a0 :: a1 :: a2 :: a3 :: a4 :: a5 :: a6 :: a7 :: some (.int v) :: tl) st σ) : gm_G X E nL pc (a0 :: a1 :: a2 :: a3 :: a4 :: a5 :: a6 :: a7 :: some (.int x) :: tl) st σ := gi_iinc0 hC (i := 8) d rfl hv hn k
theorem gi_ist_9 (hC : gm_ok X E cc nL own Ts rm) {x : Int32} {a0 a1 a2 a3 a4 a5 a6 a7 a8 a9 : Option Value} {tl : List (Option Value)} (d : decode cc pc = .ok (.istore 9, 2)) (hn : 9 < nL) (k : gm_G X E nL (pc + 2) (a0 :: a1 :: a2 :: a3 :: a4 :: a5 :: a6 :: a7 :: a8 :: some (.int x) :: tl) st σ) : gm_G X E nL pc (a0 :: a1 :: a2 :: a3 :: a4 :: a5 :: a6 :: a7 :: a8 :: a9 :: tl) (.int x :: st) σ := gi_ist0 hC (i := 9) d hn k
theorem gi_ast_9 (hC : gm_ok X E cc nL own Ts rm) {x : Nat} {a0 a1 a2 a3 a4 a5 a6 a7 a8 a9 : Option Value} {tl : List (Option Value)} (d : decode cc pc = .ok (.astore 9, 2)) (hn : 9 < nL) (k : gm_G X E nL (pc + 2) (a0 :: a1 :: a2 :: a3 :: a4 :: a5 :: a6 :: a7 :: a8 :: some (.ref x) :: tl) st σ) : gm_G X E nL pc (a0 :: a1 :: a2 :: a3 :: a4 :: a5 :: a6 :: a7 :: a8 :: a9 :: tl) (.ref x :: st) σ := gi_ast0 hC (i := 9) d hn k
theorem gi_iinc_9 (hC : gm_ok X E cc nL own Ts rm) {n : Int} {x v : Int32} {a0 a1 a2 a3 a4 a5 a6 a7 a8 : Option Value} {tl : List (Option Value)} (d : decode cc pc = .ok (.iinc 9 n, 3)) (hv : x + Int32.ofInt n = v) (hn : 9 < nL) (k : gm_G X E nL (pc + 3) (a0 :: a1 :: a2 :: a3 :: a4 :: a5 :: a6 :: a7 :: a8 :: some (.int v) :: tl) st σ) : gm_G X E nL pc (a0 :: a1 :: a2 :: a3 :: a4 :: a5 :: a6 :: a7 :: a8 :: some (.int x) :: tl) st σ := gi_iinc0 hC (i := 9) d rfl hv hn k
theorem gi_ist_10 (hC : gm_ok X E cc nL own Ts rm) {x : Int32} {a0 a1 a2 a3 a4 a5 a6 a7 a8 a9 a10 : Option Value} {tl : List (Option Value)} (d : decode cc pc = .ok (.istore 10, 2)) (hn : 10 < nL) (k : gm_G X E nL (pc + 2) (a0 :: a1 :: a2 :: a3 :: a4 :: a5 :: a6 :: a7 :: a8 :: a9 :: some (.int x) :: tl) st σ) : gm_G X E nL pc (a0 :: a1 :: a2 :: a3 :: a4 :: a5 :: a6 :: a7 :: a8 :: a9 :: a10 :: tl) (.int x :: st) σ := gi_ist0 hC (i := 10) d hn k
theorem gi_ast_10 (hC : gm_ok X E cc nL own Ts rm) {x : Nat} {a0 a1 a2 a3 a4 a5 a6 a7 a8 a9 a10 : Option Value} {tl : List (Option Value)} (d : decode cc pc = .ok (.astore 10, 2)) (hn : 10 < nL) (k : gm_G X E nL (pc + 2) (a0 :: a1 :: a2 :: a3 :: a4 :: a5 :: a6 :: a7 :: a8 :: a9 :: some (.ref x) :: tl) st σ) : gm_G X E nL pc (a0 :: a1 :: a2 :: a3 :: a4 :: a5 :: a6 :: a7 :: a8 :: a9 :: a10 :: tl) (.ref x :: st) σ := gi_ast0 hC (i := 10) d hn k
theorem gi_iinc_10 (hC : gm_ok X E cc nL own Ts rm) {n : Int} {x v : Int32} {a0 a1 a2 a3 a4 a5 a6 a7 a8 a9 : Option Value} {tl : List (Option Value)} (d : decode cc pc = .ok (.iinc 10 n, 3)) (hv : x + Int32.ofInt n = v) (hn : 10 < nL) (k : gm_G X E nL (pc + 3) (a0 :: a1 :: a2 :: a3 :: a4 :: a5 :: a6 :: a7 :: a8 :: a9 :: some (.int v) :: tl) st σ) : gm_G X E nL pc (a0 :: a1 :: a2 :: a3 :: a4 :: a5 :: a6 :: a7 :: a8 :: a9 :: some (.int x) :: tl) st σ := gi_iinc0 hC (i := 10) d rfl hv hn k
theorem gi_ist_11 (hC : gm_ok X E cc nL own Ts rm) {x : Int32} {a0 a1 a2 a3 a4 a5 a6 a7 a8 a9 a10 a11 : Option Value} {tl : List (Option Value)} (d : decode cc pc = .ok (.istore 11, 2)) (hn : 11 < nL) (k : gm_G X E nL (pc + 2) (a0 :: a1 :: a2 :: a3 :: a4 :: a5 :: a6 :: a7 :: a8 :: a9 :: a10 :: some (.int x) :: tl) st σ) : gm_G X E nL pc (a0 :: a1 :: a2 :: a3 :: a4 :: a5 :: a6 :: a7 :: a8 :: a9 :: a10 :: a11 :: tl) (.int x :: st) σ := gi_ist0 hC (i := 11) d hn k
theorem gi_ast_11 (hC : gm_ok X E cc nL own Ts rm) {x : Nat} {a0 a1 a2 a3 a4 a5 a6 a7 a8 a9 a10 a11 : Option Value} {tl : List (Option Value)} (d : decode cc pc = .ok (.astore 11, 2)) (hn : 11 < nL) (k : gm_G X E nL (pc + 2) (a0 :: a1 :: a2 :: a3 :: a4 :: a5 :: a6 :: a7 :: a8 :: a9 :: a10 :: some (.ref x) :: tl) st σ) : gm_G X E nL pc (a0 :: a1 :: a2 :: a3 :: a4 :: a5 :: a6 :: a7 :: a8 :: a9 :: a10 :: a11 :: tl) (.ref x :: st) σ := gi_ast0 hC (i := 11) d hn k
theorem gi_iinc_11 (hC : gm_ok X E cc nL own Ts rm) {n : Int} {x v : Int32} {a0 a1 a2 a3 a4 a5 a6 a7 a8 a9 a10 : Option Value} {tl : List (Option Value)} (d : decode cc pc = .ok (.iinc 11 n, 3)) (hv : x + Int32.ofInt n = v) (hn : 11 < nL) (k : gm_G X E nL (pc + 3) (a0 :: a1 :: a2 :: a3 :: a4 :: a5 :: a6 :: a7 :: a8 :: a9 :: a10 :: some (.int v) :: tl) st σ) : gm_G X E nL pc (a0 :: a1 :: a2 :: a3 :: a4 :: a5 :: a6 :: a7 :: a8 :: a9 :: a10 :: some (.int x) :: tl) st σ := gi_iinc0 hC (i := 11) d rfl hv hn k
theorem gi_iadd (hC : gm_ok X E cc nL own Ts rm) {x y : Int32} (d : decode cc pc = .ok (.iadd, 1)) (k : gm_G X E nL (pc + 1) lo (.int (x + y) :: st) σ) : gm_G X E nL pc lo (.int y :: .int x :: st) σ := by
  obtain ⟨p, l, e, R, s, m, args, below, meth, c, cells, slots, Q, A⟩ := X
  intro H locs ls hP hD hS hl
  exact lv_iadd hC.1 hC.2.1 d (k H locs ls hP hD hS hl)
theorem gi_isub (hC : gm_ok X E cc nL own Ts rm) {x y : Int32} (d : decode cc pc = .ok (.isub, 1)) (k : gm_G X E nL (pc + 1) lo (.int (x - y) :: st) σ) : gm_G X E nL pc lo (.int y :: .int x :: st) σ := by
  obtain ⟨p, l, e, R, s, m, args, below, meth, c, cells, slots, Q, A⟩ := X
  intro H locs ls hP hD hS hl
  exact lv_isub hC.1 hC.2.1 d (k H locs ls hP hD hS hl)
theorem gi_imul (hC : gm_ok X E cc nL own Ts rm) {x y : Int32} (d : decode cc pc = .ok (.imul, 1)) (k : gm_G X E nL (pc + 1) lo (.int (x * y) :: st) σ) : gm_G X E nL pc lo (.int y :: .int x :: st) σ := by
  obtain ⟨p, l, e, R, s, m, args, below, meth, c, cells, slots, Q, A⟩ := X
  intro H locs ls hP hD hS hl
  exact lv_imul hC.1 hC.2.1 d (k H locs ls hP hD hS hl)
theorem gi_iand (hC : gm_ok X E cc nL own Ts rm) {x y : Int32} (d : decode cc pc = .ok (.iand, 1)) (k : gm_G X E nL (pc + 1) lo (.int (x &&& y) :: st) σ) : gm_G X E nL pc lo (.int y :: .int x :: st) σ := by
  obtain ⟨p, l, e, R, s, m, args, below, meth, c, cells, slots, Q, A⟩ := X
  intro H locs ls hP hD hS hl
  exact lv_iand hC.1 hC.2.1 d (k H locs ls hP hD hS hl)
theorem gi_ior (hC : gm_ok X E cc nL own Ts rm) {x y : Int32} (d : decode cc pc = .ok (.ior, 1)) (k : gm_G X E nL (pc + 1) lo (.int (x ||| y) :: st) σ) : gm_G X E nL pc lo (.int y :: .int x :: st) σ := by
  obtain ⟨p, l, e, R, s, m, args, below, meth, c, cells, slots, Q, A⟩ := X
  intro H locs ls hP hD hS hl
  exact lv_ior hC.1 hC.2.1 d (k H locs ls hP hD hS hl)
theorem gi_ixor (hC : gm_ok X E cc nL own Ts rm) {x y : Int32} (d : decode cc pc = .ok (.ixor, 1)) (k : gm_G X E nL (pc + 1) lo (.int (x ^^^ y) :: st) σ) : gm_G X E nL pc lo (.int y :: .int x :: st) σ := by
  obtain ⟨p, l, e, R, s, m, args, below, meth, c, cells, slots, Q, A⟩ := X
  intro H locs ls hP hD hS hl
  exact lv_ixor hC.1 hC.2.1 d (k H locs ls hP hD hS hl)
theorem gi_ishl (hC : gm_ok X E cc nL own Ts rm) {x y : Int32} (d : decode cc pc = .ok (.ishl, 1)) (k : gm_G X E nL (pc + 1) lo (.int (x <<< (y &&& 31)) :: st) σ) : gm_G X E nL pc lo (.int y :: .int x :: st) σ := by
  obtain ⟨p, l, e, R, s, m, args, below, meth, c, cells, slots, Q, A⟩ := X
  intro H locs ls hP hD hS hl
  exact lv_ishl hC.1 hC.2.1 d (k H locs ls hP hD hS hl)
theorem gi_ishr (hC : gm_ok X E cc nL own Ts rm) {x y : Int32} (d : decode cc pc = .ok (.ishr, 1)) (k : gm_G X E nL (pc + 1) lo (.int (x >>> (y &&& 31)) :: st) σ) : gm_G X E nL pc lo (.int y :: .int x :: st) σ := by
  obtain ⟨p, l, e, R, s, m, args, below, meth, c, cells, slots, Q, A⟩ := X
  intro H locs ls hP hD hS hl
  exact lv_ishr hC.1 hC.2.1 d (k H locs ls hP hD hS hl)
theorem gi_iushr (hC : gm_ok X E cc nL own Ts rm) {x y : Int32} (d : decode cc pc = .ok (.iushr, 1)) (k : gm_G X E nL (pc + 1) lo (.int ((x.toUInt32 >>> (y.toUInt32 &&& Int32.toUInt32 31)).toInt32) :: st) σ) : gm_G X E nL pc lo (.int y :: .int x :: st) σ := by
  obtain ⟨p, l, e, R, s, m, args, below, meth, c, cells, slots, Q, A⟩ := X
  intro H locs ls hP hD hS hl
  exact lv_iushr hC.1 hC.2.1 d rfl (k H locs ls hP hD hS hl)
theorem gi_dup (hC : gm_ok X E cc nL own Ts rm) {v : Value} (d : decode cc pc = .ok (.dup, 1)) (hv : v.category = 1) (k : gm_G X E nL (pc + 1) lo (v :: v :: st) σ) : gm_G X E nL pc lo (v :: st) σ := by
  obtain ⟨p, l, e, R, s, m, args, below, meth, c, cells, slots, Q, A⟩ := X
  intro H locs ls hP hD hS hl
  exact lv_dup hC.1 hC.2.1 d hv (k H locs ls hP hD hS hl)
theorem gi_pop (hC : gm_ok X E cc nL own Ts rm) {v : Value} (d : decode cc pc = .ok (.pop, 1)) (hv : v.category = 1) (k : gm_G X E nL (pc + 1) lo st σ) : gm_G X E nL pc lo (v :: st) σ := by
  obtain ⟨p, l, e, R, s, m, args, below, meth, c, cells, slots, Q, A⟩ := X
  intro H locs ls hP hD hS hl
  exact lv_pop hC.1 hC.2.1 d hv (k H locs ls hP hD hS hl)
theorem gi_if_eq (hC : gm_ok X E cc nL own Ts rm) {x : Int32} {off : Int} (tgt : Nat) (d : decode cc pc = .ok (.ifCond .eq off, 3)) (ht : (pc : Int) + off = (tgt : Int)) (kt : x = 0 → gm_G X E nL tgt lo st σ) (kf : ¬ x = 0 → gm_G X E nL (pc + 3) lo st σ) : gm_G X E nL pc lo (.int x :: st) σ := by
  obtain ⟨p, l, e, R, s, m, args, below, meth, c, cells, slots, Q, A⟩ := X
  intro H locs ls hP hD hS hl
  exact lv_if_eq hC.1 hC.2.1 d ht (fun h => kt h H locs ls hP hD hS hl) (fun h => kf h H locs ls hP hD hS hl)
theorem gi_icmp_eq (hC : gm_ok X E cc nL own Ts rm) {x y : Int32} {off : Int} (tgt : Nat) (d : decode cc pc = .ok (.if_icmp .eq off, 3)) (ht : (pc : Int) + off = (tgt : Int)) (kt : x = y → gm_G X E nL tgt lo st σ) (kf : ¬ x = y → gm_G X E nL (pc + 3) lo st σ) : gm_G X E nL pc lo (.int y :: .int x :: st) σ := by
  obtain ⟨p, l, e, R, s, m, args, below, meth, c, cells, slots, Q, A⟩ := X
  intro H locs ls hP hD hS hl
  exact lv_icmp_eq hC.1 hC.2.1 d ht (fun h => kt h H locs ls hP hD hS hl) (fun h => kf h H locs ls hP hD hS hl)
theorem gi_if_ne (hC : gm_ok X E cc nL own Ts rm) {x : Int32} {off : Int} (tgt : Nat) (d : decode cc pc = .ok (.ifCond .ne off, 3)) (ht : (pc : Int) + off = (tgt : Int)) (kt : ¬ x = 0 → gm_G X E nL tgt lo st σ) (kf : x = 0 → gm_G X E nL (pc + 3) lo st σ) : gm_G X E nL pc lo (.int x :: st) σ := by
  obtain ⟨p, l, e, R, s, m, args, below, meth, c, cells, slots, Q, A⟩ := X
  intro H locs ls hP hD hS hl
  exact lv_if_ne hC.1 hC.2.1 d ht (fun h => kt h H locs ls hP hD hS hl) (fun h => kf h H locs ls hP hD hS hl)
theorem gi_icmp_ne (hC : gm_ok X E cc nL own Ts rm) {x y : Int32} {off : Int} (tgt : Nat) (d : decode cc pc = .ok (.if_icmp .ne off, 3)) (ht : (pc : Int) + off = (tgt : Int)) (kt : ¬ x = y → gm_G X E nL tgt lo st σ) (kf : x = y → gm_G X E nL (pc + 3) lo st σ) : gm_G X E nL pc lo (.int y :: .int x :: st) σ := by
  obtain ⟨p, l, e, R, s, m, args, below, meth, c, cells, slots, Q, A⟩ := X
  intro H locs ls hP hD hS hl
  exact lv_icmp_ne hC.1 hC.2.1 d ht (fun h => kt h H locs ls hP hD hS hl) (fun h => kf h H locs ls hP hD hS hl)
theorem gi_if_lt (hC : gm_ok X E cc nL own Ts rm) {x : Int32} {off : Int} (tgt : Nat) (d : decode cc pc = .ok (.ifCond .lt off, 3)) (ht : (pc : Int) + off = (tgt : Int)) (kt : x < 0 → gm_G X E nL tgt lo st σ) (kf : ¬ x < 0 → gm_G X E nL (pc + 3) lo st σ) : gm_G X E nL pc lo (.int x :: st) σ := by
  obtain ⟨p, l, e, R, s, m, args, below, meth, c, cells, slots, Q, A⟩ := X
  intro H locs ls hP hD hS hl
  exact lv_if_lt hC.1 hC.2.1 d ht (fun h => kt h H locs ls hP hD hS hl) (fun h => kf h H locs ls hP hD hS hl)
theorem gi_icmp_lt (hC : gm_ok X E cc nL own Ts rm) {x y : Int32} {off : Int} (tgt : Nat) (d : decode cc pc = .ok (.if_icmp .lt off, 3)) (ht : (pc : Int) + off = (tgt : Int)) (kt : x < y → gm_G X E nL tgt lo st σ) (kf : ¬ x < y → gm_G X E nL (pc + 3) lo st σ) : gm_G X E nL pc lo (.int y :: .int x :: st) σ := by
  obtain ⟨p, l, e, R, s, m, args, below, meth, c, cells, slots, Q, A⟩ := X
  intro H locs ls hP hD hS hl
  exact lv_icmp_lt hC.1 hC.2.1 d ht (fun h => kt h H locs ls hP hD hS hl) (fun h => kf h H locs ls hP hD hS hl)
theorem gi_if_ge (hC : gm_ok X E cc nL own Ts rm) {x : Int32} {off : Int} (tgt : Nat) (d : decode cc pc = .ok (.ifCond .ge off, 3)) (ht : (pc : Int) + off = (tgt : Int)) (kt : 0 ≤ x → gm_G X E nL tgt lo st σ) (kf : ¬ 0 ≤ x → gm_G X E nL (pc + 3) lo st σ) : gm_G X E nL pc lo (.int x :: st) σ := by
  obtain ⟨p, l, e, R, s, m, args, below, meth, c, cells, slots, Q, A⟩ := X
  intro H locs ls hP hD hS hl
  exact lv_if_ge hC.1 hC.2.1 d ht (fun h => kt h H locs ls hP hD hS hl) (fun h => kf h H locs ls hP hD hS hl)
theorem gi_icmp_ge (hC : gm_ok X E cc nL own Ts rm) {x y : Int32} {off : Int} (tgt : Nat) (d : decode cc pc = .ok (.if_icmp .ge off, 3)) (ht : (pc : Int) + off = (tgt : Int)) (kt : y ≤ x → gm_G X E nL tgt lo st σ) (kf : ¬ y ≤ x → gm_G X E nL (pc + 3) lo st σ) : gm_G X E nL pc lo (.int y :: .int x :: st) σ := by
  obtain ⟨p, l, e, R, s, m, args, below, meth, c, cells, slots, Q, A⟩ := X
  intro H locs ls hP hD hS hl
  exact lv_icmp_ge hC.1 hC.2.1 d ht (fun h => kt h H locs ls hP hD hS hl) (fun h => kf h H locs ls hP hD hS hl)
theorem gi_if_gt (hC : gm_ok X E cc nL own Ts rm) {x : Int32} {off : Int} (tgt : Nat) (d : decode cc pc = .ok (.ifCond .gt off, 3)) (ht : (pc : Int) + off = (tgt : Int)) (kt : 0 < x → gm_G X E nL tgt lo st σ) (kf : ¬ 0 < x → gm_G X E nL (pc + 3) lo st σ) : gm_G X E nL pc lo (.int x :: st) σ := by
  obtain ⟨p, l, e, R, s, m, args, below, meth, c, cells, slots, Q, A⟩ := X
  intro H locs ls hP hD hS hl
  exact lv_if_gt hC.1 hC.2.1 d ht (fun h => kt h H locs ls hP hD hS hl) (fun h => kf h H locs ls hP hD hS hl)
theorem gi_icmp_gt (hC : gm_ok X E cc nL own Ts rm) {x y : Int32} {off : Int} (tgt : Nat) (d : decode cc pc = .ok (.if_icmp .gt off, 3)) (ht : (pc : Int) + off = (tgt : Int)) (kt : y < x → gm_G X E nL tgt lo st σ) (kf : ¬ y < x → gm_G X E nL (pc + 3) lo st σ) : gm_G X E nL pc lo (.int y :: .int x :: st) σ := by
  obtain ⟨p, l, e, R, s, m, args, below, meth, c, cells, slots, Q, A⟩ := X
  intro H locs ls hP hD hS hl
  exact lv_icmp_gt hC.1 hC.2.1 d ht (fun h => kt h H locs ls hP hD hS hl) (fun h => kf h H locs ls hP hD hS hl)
theorem gi_if_le (hC : gm_ok X E cc nL own Ts rm) {x : Int32} {off : Int} (tgt : Nat) (d : decode cc pc = .ok (.ifCond .le off, 3)) (ht : (pc : Int) + off = (tgt : Int)) (kt : x ≤ 0 → gm_G X E nL tgt lo st σ) (kf : ¬ x ≤ 0 → gm_G X E nL (pc + 3) lo st σ) : gm_G X E nL pc lo (.int x :: st) σ := by
  obtain ⟨p, l, e, R, s, m, args, below, meth, c, cells, slots, Q, A⟩ := X
  intro H locs ls hP hD hS hl
  exact lv_if_le hC.1 hC.2.1 d ht (fun h => kt h H locs ls hP hD hS hl) (fun h => kf h H locs ls hP hD hS hl)
theorem gi_icmp_le (hC : gm_ok X E cc nL own Ts rm) {x y : Int32} {off : Int} (tgt : Nat) (d : decode cc pc = .ok (.if_icmp .le off, 3)) (ht : (pc : Int) + off = (tgt : Int)) (kt : x ≤ y → gm_G X E nL tgt lo st σ) (kf : ¬ x ≤ y → gm_G X E nL (pc + 3) lo st σ) : gm_G X E nL pc lo (.int y :: .int x :: st) σ := by
  obtain ⟨p, l, e, R, s, m, args, below, meth, c, cells, slots, Q, A⟩ := X
  intro H locs ls hP hD hS hl
  exact lv_icmp_le hC.1 hC.2.1 d ht (fun h => kt h H locs ls hP hD hS hl) (fun h => kf h H locs ls hP hD hS hl)
theorem gi_goto (hC : gm_ok X E cc nL own Ts rm) {off : Int} (tgt : Nat) (d : decode cc pc = .ok (.goto off, 3)) (ht : (pc : Int) + off = (tgt : Int)) (k : gm_G X E nL tgt lo st σ) : gm_G X E nL pc lo st σ := by
  obtain ⟨p, l, e, R, s, m, args, below, meth, c, cells, slots, Q, A⟩ := X
  intro H locs ls hP hD hS hl
  exact lv_goto hC.1 hC.2.1 d ht (k H locs ls hP hD hS hl)
/-- a reference or int field of an object -/
theorem gi_get (hC : gm_ok X E cc nL own Ts rm) {x ci j idx N : Nat} {C ref : String} {T : u_T} {fs : (Nat → Int32) → List Value} {v : Value} (ho : gm_isO E x ci fs) (hc : vwCl[ci]? = some (C, T, N)) (hin : ∀ w ∈ u_ws C T N, w ∈ Ts) (hj : j < N) (hlk : Cond.fieldLink own idx ref (T j).2.1 (T j).2.2.1 ∈ Ts) (hrf : ref = (T j).1) (hv : (fs (σ.1 x))[j]? = some v) (d : decode cc pc = .ok (.getfield idx, 3)) (k : gm_G X E nL (pc + 3) lo (v :: st) σ) : gm_G X E nL pc lo (.ref (E.2.2 x) :: st) σ := by
  obtain ⟨p, l, e, R, s, m, args, below, meth, c, cells, slots, Q, A⟩ := X
  intro H locs ls hP hD hS hl
  obtain ⟨q, hq⟩ := gm_at (E := E) σ ho.1
  have hq2 : (gm_w E σ)[q]? = some (E.2.2 x, .inr (ci, fs (σ.1 x))) := by rw [hq]; simp only [gm_cell, ho.2]
  subst hrf
  exact va_get (D := E.1) hC.1 hC.2.1 hC.2.2.2.2.1 hin hC.2.2.2.1 hC.2.2.2.2.2.1 hP q hq2 hc j hj (hC.2.2.2.2.1 _ hlk) (fun _ h9 => h9) hv d (k H locs ls hP hD hS hl)
/-- an int (or boolean) field of an object becomes v -/
theorem gi_put (hC : gm_ok X E cc nL own Ts rm) {x ci j idx N : Nat} {C ref : String} {T : u_T} {fs : (Nat → Int32) → List Value} {v : Int32} {ty : FieldType} (ty0 : Nat → FieldType) (hty : ∀ k, k < N → parseFieldDescriptor (T k).2.2.1 = some (ty0 k)) (hnm : ∀ a, a < N → ∀ b, b < N → a ≠ b → (T a).2.1 ≠ (T b).2.1) (ho : gm_isO E x ci fs) (hc : vwCl[ci]? = some (C, T, N)) (hin : ∀ w ∈ u_ws C T N, w ∈ Ts) (hj : j < N) (hlk : Cond.fieldLink own idx ref (T j).2.1 (T j).2.2.1 ∈ Ts) (hrf : ref = (T j).1) (hfin : (T j).2.2.2 = false) (hd : parseFieldDescriptor (T j).2.2.1 = some ty) (hn : narrow ty (.int v) = .int v) (hfit : fits ty (.int v) = true) (hlen : j < (fs (σ.1 x)).length) (hset : (fs (σ.1 x)).set j (.int v) = fs (upd (σ.1 x) j v)) (d : decode cc pc = .ok (.putfield idx, 3)) (k : gm_G X E nL (pc + 3) lo st (gm_sc σ x j v)) : gm_G X E nL pc lo (.int v :: .ref (E.2.2 x) :: st) σ := by
  obtain ⟨p, l, e, R, s, m, args, below, meth, c, cells, slots, Q, A⟩ := X
  intro H locs ls hP hD hS hl
  obtain ⟨q, hq⟩ := gm_at (E := E) σ ho.1
  have hq2 : (gm_w E σ)[q]? = some (E.2.2 x, .inr (ci, fs (σ.1 x))) := by rw [hq]; simp only [gm_cell, ho.2]
  subst hrf
  refine va_put (D := E.1) hC.1 hC.2.1 hC.2.2.2.2.1 hin ty0 hty hnm hC.2.2.2.1 hC.2.2.2.2.2.1 hP hD hS q hq2 hc j hj (hC.2.2.2.2.1 _ hlk) (fun _ h9 => h9) hfin hd hn hfit hlen d (fun H1 locs1 hP1 hD1 hS1 => ?_)
  have he : (gm_w E σ).set q (E.2.2 x, .inr (ci, (fs (σ.1 x)).set j (.int v))) = gm_w E (gm_sc σ x j v) := gm_set ho.1 hD hq (by rw [gm_sc_s, ho.2, hset]) (fun y h => gm_sc_o y h)
  rw [he] at hP1 hD1
  exact k H1 locs1 ls hP1 hD1 hS1 hl
theorem gi_iald (hC : gm_ok X E cc nL own Ts rm) {x n j : Nat} {i : Int32} (ho : gm_isI E x n) (hj : j < n) (hi : i = nI j) (hn : n < 2 ^ 31) (d : decode cc pc = .ok (.iaload, 1)) (k : gm_G X E nL (pc + 1) lo (.int (σ.2 x j) :: st) σ) : gm_G X E nL pc lo (.int i :: .ref (E.2.2 x) :: st) σ := by
  obtain ⟨p, l, e, R, s, m, args, below, meth, c, cells, slots, Q, A⟩ := X
  intro H locs ls hP hD hS hl
  obtain ⟨q, hq⟩ := gm_at (E := E) σ ho.1
  have hq2 : (gm_w E σ)[q]? = some (E.2.2 x, .inl (E.2.1.1, n, .inl (σ.2 x))) := by rw [hq]; simp only [gm_cell, ho.2]
  subst hi
  refine va_iald (D := E.1) hC.1 hC.2.1 hC.2.2.2.2.2.1 hP q 0 hq2 rfl (vp_in_nI hj hn) d ?_
  rw [nI_clamp (by omega)]
  exact k H locs ls hP hD hS hl
theorem gi_zald (hC : gm_ok X E cc nL own Ts rm) {x n j : Nat} {i : Int32} (ho : gm_isZ E x n) (hj : j < n) (hi : i = nI j) (hn : n < 2 ^ 31) (d : decode cc pc = .ok (.baload, 1)) (k : gm_G X E nL (pc + 1) lo (.int (σ.2 x j) :: st) σ) : gm_G X E nL pc lo (.int i :: .ref (E.2.2 x) :: st) σ := by
  obtain ⟨p, l, e, R, s, m, args, below, meth, c, cells, slots, Q, A⟩ := X
  intro H locs ls hP hD hS hl
  obtain ⟨q, hq⟩ := gm_at (E := E) σ ho.1
  have hq2 : (gm_w E σ)[q]? = some (E.2.2 x, .inl (E.2.1.2.1, n, .inl (σ.2 x))) := by rw [hq]; simp only [gm_cell, ho.2]
  subst hi
  refine va_zald (D := E.1) hC.1 hC.2.1 hC.2.2.2.2.2.1 hP q 1 hq2 rfl (vp_in_nI hj hn) d ?_
  rw [nI_clamp (by omega)]
  exact k H locs ls hP hD hS hl
theorem gi_iast (hC : gm_ok X E cc nL own Ts rm) {x n j : Nat} {i v : Int32} (ho : gm_isI E x n) (hj : j < n) (hi : i = nI j) (hn : n < 2 ^ 31) (d : decode cc pc = .ok (.iastore, 1)) (k : gm_G X E nL (pc + 1) lo st (gm_ar σ x j v)) : gm_G X E nL pc lo (.int v :: .int i :: .ref (E.2.2 x) :: st) σ := by
  obtain ⟨p, l, e, R, s, m, args, below, meth, c, cells, slots, Q, A⟩ := X
  intro H locs ls hP hD hS hl
  obtain ⟨q, hq⟩ := gm_at (E := E) σ ho.1
  have hq2 : (gm_w E σ)[q]? = some (E.2.2 x, .inl (E.2.1.1, n, .inl (σ.2 x))) := by rw [hq]; simp only [gm_cell, ho.2]
  subst hi
  refine va_iast (D := E.1) hC.1 hC.2.1 hC.2.2.2.2.2.1 hP hD hS q 0 hq2 rfl (vp_in_nI hj hn) d (fun H1 locs1 hP1 hD1 hS1 => ?_)
  rw [nI_clamp (by omega)] at hP1 hD1
  have he : (gm_w E σ).set q (E.2.2 x, .inl (E.2.1.1, n, .inl (upd (σ.2 x) j v))) = gm_w E (gm_ar σ x j v) := gm_set ho.1 hD hq (by rw [gm_ar_s, ho.2]) (fun y h => gm_ar_o y h)
  rw [he] at hP1 hD1
  exact k H1 locs1 ls hP1 hD1 hS1 hl
theorem gi_zast (hC : gm_ok X E cc nL own Ts rm) {x n j : Nat} {i v : Int32} (ho : gm_isZ E x n) (hj : j < n) (hi : i = nI j) (hv : v = 0 ∨ v = 1) (hn : n < 2 ^ 31) (d : decode cc pc = .ok (.bastore, 1)) (k : gm_G X E nL (pc + 1) lo st (gm_ar σ x j v)) : gm_G X E nL pc lo (.int v :: .int i :: .ref (E.2.2 x) :: st) σ := by
  obtain ⟨p, l, e, R, s, m, args, below, meth, c, cells, slots, Q, A⟩ := X
  intro H locs ls hP hD hS hl
  obtain ⟨q, hq⟩ := gm_at (E := E) σ ho.1
  have hq2 : (gm_w E σ)[q]? = some (E.2.2 x, .inl (E.2.1.2.1, n, .inl (σ.2 x))) := by rw [hq]; simp only [gm_cell, ho.2]
  subst hi
  have hvv : vp_nar .boolean v = v := by rcases hv with rfl | rfl <;> decide +kernel
  refine va_zast (D := E.1) hC.1 hC.2.1 hC.2.2.2.2.2.1 hP hD hS q 1 hq2 rfl (vp_in_nI hj hn) d (fun H1 locs1 hP1 hD1 hS1 => ?_)
  rw [nI_clamp (by omega), hvv] at hP1 hD1
  have he : (gm_w E σ).set q (E.2.2 x, .inl (E.2.1.2.1, n, .inl (upd (σ.2 x) j v))) = gm_w E (gm_ar σ x j v) := gm_set ho.1 hD hq (by rw [gm_ar_s, ho.2]) (fun y h => gm_ar_o y h)
  rw [he] at hP1 hD1
  exact k H1 locs1 ls hP1 hD1 hS1 hl
/-- a packing out of the packer's row, a forest out of a packing's row, and the row's length -/
theorem gi_aaldP (hC : gm_ok X E cc nL own Ts rm) {j : Nat} {i : Int32} (hj : j < 7) (hi : i = nI j) (d : decode cc pc = .ok (.aaload, 1)) (k : gm_G X E nL (pc + 1) lo (.ref (E.2.2 (gm_P j)) :: st) σ) : gm_G X E nL pc lo (.int i :: .ref (E.2.2 4) :: st) σ := by
  obtain ⟨p, l, e, R, s, m, args, below, meth, c, cells, slots, Q, A⟩ := X
  intro H locs ls hP hD hS hl
  obtain ⟨q, hq⟩ := gm_at (E := E) σ (gm_in_lo (x := 4) (by decide))
  subst hi
  refine va_aldq (D := E.1) hC.1 hC.2.1 hC.2.2.2.2.2.1 hP q 2 hq rfl (vp_in_nI hj (by decide)) d ?_
  rw [nI_clamp (by omega)]
  exact k H locs ls hP hD hS hl
theorem gi_aaldF (hC : gm_ok X E cc nL own Ts rm) {kk j : Nat} {i : Int32} (hk : kk < 7) (hj : j < kk) (hi : i = nI j) (d : decode cc pc = .ok (.aaload, 1)) (k : gm_G X E nL (pc + 1) lo (.ref (E.2.2 (gm_P kk + 5 + 3 * j)) :: st) σ) : gm_G X E nL pc lo (.int i :: .ref (E.2.2 (gm_P kk + 4)) :: st) σ := by
  obtain ⟨p, l, e, R, s, m, args, below, meth, c, cells, slots, Q, A⟩ := X
  intro H locs ls hP hD hS hl
  obtain ⟨q, hq⟩ := gm_at (E := E) σ (gm_in_P (r := 4) hk (by omega))
  have hq2 : (gm_w E σ)[q]? = some (E.2.2 (gm_P kk + 4), .inl (E.2.1.2.2.2, kk, .inr (.inr (.inr (.inr (fun i => some (E.2.2 (gm_P kk + 5 + 3 * i)))))))) := by rw [hq]; simp only [gm_cell, gm_cF]
  subst hi
  refine va_aldq (D := E.1) hC.1 hC.2.1 hC.2.2.2.2.2.1 hP q 3 hq2 rfl (vp_in_nI hj (by omega)) d ?_
  rw [nI_clamp (by omega)]
  exact k H locs ls hP hD hS hl
theorem gi_alenF (hC : gm_ok X E cc nL own Ts rm) {kk : Nat} (hk : kk < 7) (d : decode cc pc = .ok (.arraylength, 1)) (k : gm_G X E nL (pc + 1) lo (.int (nI kk) :: st) σ) : gm_G X E nL pc lo (.ref (E.2.2 (gm_P kk + 4)) :: st) σ := by
  obtain ⟨p, l, e, R, s, m, args, below, meth, c, cells, slots, Q, A⟩ := X
  intro H locs ls hP hD hS hl
  obtain ⟨q, hq⟩ := gm_at (E := E) σ (gm_in_P (r := 4) hk (by omega))
  have hq2 : (gm_w E σ)[q]? = some (E.2.2 (gm_P kk + 4), .inl (E.2.1.2.2.2, kk, .inr (.inr (.inr (.inr (fun i => some (E.2.2 (gm_P kk + 5 + 3 * i)))))))) := by rw [hq]; simp only [gm_cell, gm_cF]
  exact va_alen (D := E.1) hC.1 hC.2.1 hC.2.2.2.2.2.1 hP q 3 hq2 rfl rfl d (k H locs ls hP hD hS hl)
theorem gi_alenI (hC : gm_ok X E cc nL own Ts rm) {x n : Nat} (ho : gm_isI E x n) (d : decode cc pc = .ok (.arraylength, 1)) (k : gm_G X E nL (pc + 1) lo (.int (nI n) :: st) σ) : gm_G X E nL pc lo (.ref (E.2.2 x) :: st) σ := by
  obtain ⟨p, l, e, R, s, m, args, below, meth, c, cells, slots, Q, A⟩ := X
  intro H locs ls hP hD hS hl
  obtain ⟨q, hq⟩ := gm_at (E := E) σ ho.1
  have hq2 : (gm_w E σ)[q]? = some (E.2.2 x, .inl (E.2.1.1, n, .inl (σ.2 x))) := by rw [hq]; simp only [gm_cell, ho.2]
  exact va_alen (D := E.1) hC.1 hC.2.1 hC.2.2.2.2.2.1 hP q 0 hq2 rfl rfl d (k H locs ls hP hD hS hl)
end GM
