/-! CONTRACTS over the memory by names, a method's entry and its end, and calls -/
def gm_A (E : gm_E) (sz : Nat) : Nat → Prop := fun q => (∃ x, x ∈ gm_names ∧ q = E.2.2 x) ∨ sz ≤ q
def gm_pre (E : gm_E) (σ : gm_S) (sz : Nat) : State → Prop := fun U => U.heap.size = sz ∧ va_P E.1 vwCl (gm_w E σ) U.heap ∧ va_K E.1 vwCl (gm_tys E) U ∧ va_D (fun _ => True) (gm_w E σ)
def gm_B (E : gm_E) (A : Nat → Prop) (σ : gm_S) (t : State) : Prop := va_P E.1 vwCl (gm_w E σ) t.heap ∧ va_K E.1 vwCl (gm_tys E) t ∧ va_D A (gm_w E σ)
/-- the contract of a method that answers an int (or a boolean), that answers nothing, that answers the cell x -/
def gm_MI (l : Launch) (E : gm_E) (y : MethodName) (ws : List Cond) (rm : Room) (av : List Value) (σ : gm_S) (post : Int32 → gm_S → Prop) : Prop := ∀ sz : Nat, Met l y ws rm (va_Pc av (gm_pre E σ sz)) (va_Qi post (gm_B E (gm_A E sz)) (gm_A E sz)) 0 0 (gm_A E sz)
def gm_MV (l : Launch) (E : gm_E) (y : MethodName) (ws : List Cond) (rm : Room) (av : List Value) (σ : gm_S) (post : gm_S → Prop) : Prop := ∀ sz : Nat, Met l y ws rm (va_Pc av (gm_pre E σ sz)) (va_Qv post (gm_B E (gm_A E sz)) (gm_A E sz)) 0 0 (gm_A E sz)
def gm_MR (l : Launch) (E : gm_E) (y : MethodName) (ws : List Cond) (rm : Room) (av : List Value) (σ : gm_S) (x : Nat) (post : gm_S → Prop) : Prop := ∀ sz : Nat, Met l y ws rm (va_Pc av (gm_pre E σ sz)) (va_Qr post (fun σ' a t => a = E.2.2 x ∧ gm_B E (gm_A E sz) σ' t) (gm_A E sz)) 0 0 (gm_A E sz)
theorem gm_blind {av : List Value} {E : gm_E} {σ : gm_S} {sz : Nat} : FrameBlind (va_Pc av (gm_pre E σ sz)) := fun a U g mk q => by
  obtain ⟨q0, q1, qP, qK, qD⟩ := q
  exact ⟨q0, q1, qP, va_K.moved (u := U) (U := U.calling g mk a) (Vm.Alike.refl U.vm) qK, qD⟩
theorem gm_Dself {E : gm_E} {σ : gm_S} {A : Nat → Prop} {sz : Nat} (h : va_D A (gm_w E σ)) : va_D (gm_A E sz) (gm_w E σ) := ⟨h.1, fun k q hk => by
  obtain ⟨y, h1, h2, -⟩ := gm_adr E σ k q.1 q.2 hk
  exact Or.inl ⟨y, List.mem_of_getElem? h1, h2⟩⟩
theorem gm_sl_len : ∀ (av : List Value), (∀ v ∈ av, v.category = 1) → (lg_sl av).length = av.length
  | [], _ => rfl
  | v :: av, h => by
    have ih := gm_sl_len av (fun w hw => h w (List.mem_cons_of_mem _ hw))
    have hv := h v List.mem_cons_self
    simp only [lg_sl, List.flatMap_cons] at ih ⊢
    rw [if_neg (by omega), List.length_append, ih]
    simp only [List.length_cons, List.length_nil]
    omega
theorem gm_args : ∀ (av : List Value) (i k : Nat) (v : Value), (∀ w ∈ av, w.category = 1) → av[k]? = some v → (i + k, v) ∈ lv_args i av
  | [], i, k, v, _, h => by simp at h
  | w :: av, i, k, v, hc, h => by
    have hw := hc w List.mem_cons_self
    rw [lv_args, if_neg (by omega)]
    cases k with
    | zero =>
      rw [List.getElem?_cons_zero] at h
      cases h
      exact List.mem_cons_self
    | succ k =>
      rw [List.getElem?_cons_succ] at h
      have := gm_args av (i + 1) k v (fun z hz => hc z (List.mem_cons_of_mem _ hz)) h
      rw [show i + (k + 1) = i + 1 + k by omega]
      exact List.mem_cons_of_mem _ this
def gm_lo0 (av : List Value) (n : Nat) : List (Option Value) := av.map some ++ List.replicate (n - av.length) none
theorem gm_entry {av : List Value} {n : Nat} (hc : ∀ v ∈ av, v.category = 1) (hn : av.length ≤ n) : gm_lo ((lg_sl av ++ List.replicate (n - (lg_sl av).length) Slot.unset).toArray) n (gm_lo0 av n) := by
  have h := lv_entry av (n := n) (by rw [gm_sl_len av hc]; exact hn)
  refine ⟨h.1, h.2.1, fun k v hk => ?_⟩
  have hav : av[k]? = some v := by
    by_cases hl : k < av.length
    · rw [gm_lo0, List.getElem?_append_left (by simpa using hl), List.getElem?_map] at hk
      cases hb : av[k]? with
      | none => rw [hb] at hk; cases hk
      | some w => rw [hb] at hk; cases hk; rfl
    · rw [gm_lo0, List.getElem?_append_right (by simp; omega)] at hk
      have := List.mem_of_getElem? hk
      have := List.eq_of_mem_replicate this
      cases this
  exact ⟨hc v (List.mem_of_getElem? hav), h.2.2 (k, v) (by have := gm_args av 0 k v hc hav; rwa [Nat.zero_add] at this)⟩
theorem gm_enterI {l : Launch} {E : gm_E} {y : MethodName} {ws ws' : List Cond} {rm : Room} {av : List Value} {σ : gm_S} {post : Int32 → gm_S → Prop} {cc : ByteArray} {maxL : Nat} {rt : FieldType} (own : String) (hy : plainName y.cls = true) (hw : ws = Cond.code y cc maxL (some rt) :: ws') (hown : y.cls = own) (hn : av.length ≤ maxL) (hc : ∀ v ∈ av, v.category = 1)
    (body : ∀ X : gm_X, gm_ok X E cc maxL own ws rm → (∀ (r : Int32) (σ' : gm_S) (pc : Nat) (lo : List (Option Value)), narrow rt (.int r) = .int r → post r σ' → decode cc pc = .ok (.ireturn, 1) → gm_G X E maxL pc lo [.int r] σ') → gm_G X E maxL 0 (gm_lo0 av maxL) [] σ) : gm_MI l E y ws rm av σ post := by
  intro sz
  refine Met.ofW (cc := cc) (maxL := maxL) (ret := some rt) hy hw ?_
  intro p e s m args below meth c s₁ B hml hv
  obtain ⟨rfl, hsz, hP, hK, hD0⟩ := hv
  subst hsz
  have hlocks := B.notSynchronized
  have hf : s.vm.findClass own = some m.cls := by rw [← hown]; exact findClass_of_methodNamed B.named
  have h := body (p, l, e, (headSpec ws rm).room, s, m, av.toArray, below, meth, c, 0, 0, MQ below (va_Qi post (gm_B E (gm_A E s.heap.size)) (gm_A E s.heap.size)) av.toArray s 0 0 (gm_A E s.heap.size), gm_A E s.heap.size)
    ⟨B.exec, B.bytes, hml, hf, atoms_spec (ws := ws) B.pre, hK, rfl, fun x hx => Or.inl ⟨x, hx, rfl⟩, fun q hq => Or.inr hq, hlocks, Nat.zero_le _, Nat.zero_le _⟩
    (fun r σ' pc lo hr hp d H locs ls hP hD hS hl => W.zret B.exec B.bytes B.returns hr (fun t ht hW => ⟨⟨r, σ', rfl, hp, by rw [ht]; exact hP, va_K.moved hW.alike hK, hD⟩, hS.F ht⟩) hS.2.2 d hlocks)
  rw [lg_entry_eq]
  exact h s.heap [] _ hP (gm_Dself hD0) va_S.rf (gm_entry hc hn)
theorem gm_enterV {l : Launch} {E : gm_E} {y : MethodName} {ws ws' : List Cond} {rm : Room} {av : List Value} {σ : gm_S} {post : gm_S → Prop} {cc : ByteArray} {maxL : Nat} (own : String) (hy : plainName y.cls = true) (hw : ws = Cond.code y cc maxL none :: ws') (hown : y.cls = own) (hn : av.length ≤ maxL) (hc : ∀ v ∈ av, v.category = 1)
    (body : ∀ X : gm_X, gm_ok X E cc maxL own ws rm → (∀ (σ' : gm_S) (pc : Nat) (lo : List (Option Value)), post σ' → decode cc pc = .ok (.return_, 1) → gm_G X E maxL pc lo [] σ') → gm_G X E maxL 0 (gm_lo0 av maxL) [] σ) : gm_MV l E y ws rm av σ post := by
  intro sz
  refine Met.ofW (cc := cc) (maxL := maxL) (ret := none) hy hw ?_
  intro p e s m args below meth c s₁ B hml hv
  obtain ⟨rfl, hsz, hP, hK, hD0⟩ := hv
  subst hsz
  have hlocks := B.notSynchronized
  have hf : s.vm.findClass own = some m.cls := by rw [← hown]; exact findClass_of_methodNamed B.named
  have h := body (p, l, e, (headSpec ws rm).room, s, m, av.toArray, below, meth, c, 0, 0, MQ below (va_Qv post (gm_B E (gm_A E s.heap.size)) (gm_A E s.heap.size)) av.toArray s 0 0 (gm_A E s.heap.size), gm_A E s.heap.size)
    ⟨B.exec, B.bytes, hml, hf, atoms_spec (ws := ws) B.pre, hK, rfl, fun x hx => Or.inl ⟨x, hx, rfl⟩, fun q hq => Or.inr hq, hlocks, Nat.zero_le _, Nat.zero_le _⟩
    (fun σ' pc lo hp d H locs ls hP hD hS hl => W.vret B.exec B.bytes B.returns (fun t ht hW => ⟨⟨σ', rfl, hp, by rw [ht]; exact hP, va_K.moved hW.alike hK, hD⟩, hS.F ht⟩) hS.2.2 d hlocks)
  rw [lg_entry_eq]
  exact h s.heap [] _ hP (gm_Dself hD0) va_S.rf (gm_entry hc hn)
theorem gm_enterR {l : Launch} {E : gm_E} {y : MethodName} {ws ws' : List Cond} {rm : Room} {av : List Value} {σ : gm_S} {x : Nat} {post : gm_S → Prop} {cc : ByteArray} {maxL : Nat} {rt : FieldType} (own : String) (hy : plainName y.cls = true) (hw : ws = Cond.code y cc maxL (some rt) :: ws') (hrt : (∃ n, rt = .object n) ∨ ∃ t, rt = .array t) (hown : y.cls = own) (hn : av.length ≤ maxL) (hc : ∀ v ∈ av, v.category = 1)
    (body : ∀ X : gm_X, gm_ok X E cc maxL own ws rm → (∀ (σ' : gm_S) (pc : Nat) (lo : List (Option Value)), post σ' → decode cc pc = .ok (.areturn, 1) → gm_G X E maxL pc lo [.ref (E.2.2 x)] σ') → gm_G X E maxL 0 (gm_lo0 av maxL) [] σ) : gm_MR l E y ws rm av σ x post := by
  intro sz
  refine Met.ofW (cc := cc) (maxL := maxL) (ret := some rt) hy hw ?_
  intro p e s m args below meth c s₁ B hml hv
  obtain ⟨rfl, hsz, hP, hK, hD0⟩ := hv
  subst hsz
  have hlocks := B.notSynchronized
  have hf : s.vm.findClass own = some m.cls := by rw [← hown]; exact findClass_of_methodNamed B.named
  have h := body (p, l, e, (headSpec ws rm).room, s, m, av.toArray, below, meth, c, 0, 0, MQ below (va_Qr post (fun σ' a t => a = E.2.2 x ∧ gm_B E (gm_A E s.heap.size) σ' t) (gm_A E s.heap.size)) av.toArray s 0 0 (gm_A E s.heap.size), gm_A E s.heap.size)
    ⟨B.exec, B.bytes, hml, hf, atoms_spec (ws := ws) B.pre, hK, rfl, fun x hx => Or.inl ⟨x, hx, rfl⟩, fun q hq => Or.inr hq, hlocks, Nat.zero_le _, Nat.zero_le _⟩
    (fun σ' pc lo hp d H locs ls hP hD hS hl => W.aret B.exec B.bytes B.returns hrt (Or.inr ⟨_, rfl⟩) (fun t ht hW => ⟨⟨σ', E.2.2 x, rfl, hp, rfl, by rw [ht]; exact hP, va_K.moved hW.alike hK, hD⟩, hS.F ht⟩) hS.2.2 d hlocks)
  rw [lg_entry_eq]
  exact h s.heap [] _ hP (gm_Dself hD0) va_S.rf (gm_entry hc hn)
section GK
variable {X : gm_X} {E : gm_E} {cc bytes : ByteArray} {nL pc x ci idx maxL n N : Nat} {own C : String} {T : u_T} {fs : (Nat → Int32) → List Value} {Ts ws ws' : List Cond} {rm rm2 : Room} {lo : List (Option Value)} {st : List Value} {σ : gm_S} {y : MethodName} {As rest : List Value} {ret : Option FieldType}

theorem gk_VI (hC : gm_ok X E cc nL own Ts rm) {post : Int32 → gm_S → Prop} (hM : ∀ l : Launch, gm_MI l E y ws rm2 (.ref (E.2.2 x) :: As) σ post) (ho : gm_isO E x ci fs) (hc : vwCl[ci]? = some (C, T, N)) (hT : GoodIn Ts (wsV own idx C y ws)) (hw : ws = Cond.code y bytes maxL ret :: ws') (hrm : rm2.cells = 0 ∧ rm2.slots = 0) (hn : As.length = n) (hd : y.cls = C ∧ y.cls ≠ "java/lang/invoke/MethodHandle" ∧ y.cls ≠ "java/lang/invoke/VarHandle" ∧ (parseMethodDescriptor y.desc).map (fun d => d.parameters.length) = some n) (hR : rm2.frames + 1 ≤ rm.frames ∧ 8 + (maxL + 11) + rm2.locals ≤ rm.locals) (hW : (rest.map fun v => v.category).sum ≤ 8) (d : decode cc pc = .ok (.invokevirtual idx, 3)) (k : ∀ (r : Int32) (σ2 : gm_S), post r σ2 → gm_G X E nL (pc + 3) lo (.int r :: rest) σ2) : gm_G X E nL pc lo (As.reverse ++ .ref (E.2.2 x) :: rest) σ := by
  obtain ⟨p, l, e, R, s, m, args, below, meth, c, cells, slots, Q, A⟩ := X
  intro H locs ls hP hD hS hl
  obtain ⟨hx, hb, hml, hown, hts, hK, hRm, hnm, hA, hlk, hcs, hss⟩ := hC
  subst hRm
  have hF : ∀ q, gm_A E H.size q → A q := by
    rintro q (⟨z, hz, rfl⟩ | h)
    · exact hnm z hz
    · exact hA q (Nat.le_trans hS.1 h)
  obtain ⟨q, hq⟩ := gm_at (E := E) σ ho.1
  have hq2 : (gm_w E σ)[q]? = some (E.2.2 x, .inr (ci, fs (σ.1 x))) := by rw [hq]; simp only [gm_cell, ho.2]
  refine va_calli (va_runV (As := As) (rest := rest) ⟨hx, hb, hml, hown, hts⟩ (hM l H.size) (cwV n hts hT hw hrm.1 hrm.2 hd hR) ⟨gm_blind, va_recv hK hP hc hq2, (fun U hU hW2 => ⟨rfl, by rw [hU], by rw [hU]; exact hP, va_K.moved hW2.alike hK, hD.weaken (fun _ _ _ _ => trivial)⟩)⟩ rfl hn hl.1 rfl (lv_room hW) d ⟨hcs, hss⟩) hS (fun q _ h => hF q h) hF (fun r u t H1 locs1 ht hvm hw2 hB hz hk hS1 => ?_)
  obtain ⟨hP1, -, hD1⟩ := hB
  rw [ht] at hP1
  exact k r u hw2 H1 locs1 ls hP1 (hD1.weaken (fun _ q _ h => hF q.1 h)) hS1 hl
theorem gk_VV (hC : gm_ok X E cc nL own Ts rm) {post : gm_S → Prop} (hM : ∀ l : Launch, gm_MV l E y ws rm2 (.ref (E.2.2 x) :: As) σ post) (ho : gm_isO E x ci fs) (hc : vwCl[ci]? = some (C, T, N)) (hT : GoodIn Ts (wsV own idx C y ws)) (hw : ws = Cond.code y bytes maxL ret :: ws') (hrm : rm2.cells = 0 ∧ rm2.slots = 0) (hn : As.length = n) (hd : y.cls = C ∧ y.cls ≠ "java/lang/invoke/MethodHandle" ∧ y.cls ≠ "java/lang/invoke/VarHandle" ∧ (parseMethodDescriptor y.desc).map (fun d => d.parameters.length) = some n) (hR : rm2.frames + 1 ≤ rm.frames ∧ 8 + (maxL + 11) + rm2.locals ≤ rm.locals) (hW : (rest.map fun v => v.category).sum ≤ 8) (d : decode cc pc = .ok (.invokevirtual idx, 3)) (k : ∀ (σ2 : gm_S), post σ2 → gm_G X E nL (pc + 3) lo rest σ2) : gm_G X E nL pc lo (As.reverse ++ .ref (E.2.2 x) :: rest) σ := by
  obtain ⟨p, l, e, R, s, m, args, below, meth, c, cells, slots, Q, A⟩ := X
  intro H locs ls hP hD hS hl
  obtain ⟨hx, hb, hml, hown, hts, hK, hRm, hnm, hA, hlk, hcs, hss⟩ := hC
  subst hRm
  have hF : ∀ q, gm_A E H.size q → A q := by
    rintro q (⟨z, hz, rfl⟩ | h)
    · exact hnm z hz
    · exact hA q (Nat.le_trans hS.1 h)
  obtain ⟨q, hq⟩ := gm_at (E := E) σ ho.1
  have hq2 : (gm_w E σ)[q]? = some (E.2.2 x, .inr (ci, fs (σ.1 x))) := by rw [hq]; simp only [gm_cell, ho.2]
  refine va_callv (va_runV (As := As) (rest := rest) ⟨hx, hb, hml, hown, hts⟩ (hM l H.size) (cwV n hts hT hw hrm.1 hrm.2 hd hR) ⟨gm_blind, va_recv hK hP hc hq2, (fun U hU hW2 => ⟨rfl, by rw [hU], by rw [hU]; exact hP, va_K.moved hW2.alike hK, hD.weaken (fun _ _ _ _ => trivial)⟩)⟩ rfl hn hl.1 rfl (lv_room hW) d ⟨hcs, hss⟩) hS (fun q _ h => hF q h) hF (fun u t H1 locs1 ht hvm hw2 hB hz hk hS1 => ?_)
  obtain ⟨hP1, -, hD1⟩ := hB
  rw [ht] at hP1
  exact k u hw2 H1 locs1 ls hP1 (hD1.weaken (fun _ q _ h => hF q.1 h)) hS1 hl
theorem gk_VR (hC : gm_ok X E cc nL own Ts rm) {post : gm_S → Prop} {x2 : Nat} (hM : ∀ l : Launch, gm_MR l E y ws rm2 (.ref (E.2.2 x) :: As) σ x2 post) (ho : gm_isO E x ci fs) (hc : vwCl[ci]? = some (C, T, N)) (hT : GoodIn Ts (wsV own idx C y ws)) (hw : ws = Cond.code y bytes maxL ret :: ws') (hrm : rm2.cells = 0 ∧ rm2.slots = 0) (hn : As.length = n) (hd : y.cls = C ∧ y.cls ≠ "java/lang/invoke/MethodHandle" ∧ y.cls ≠ "java/lang/invoke/VarHandle" ∧ (parseMethodDescriptor y.desc).map (fun d => d.parameters.length) = some n) (hR : rm2.frames + 1 ≤ rm.frames ∧ 8 + (maxL + 11) + rm2.locals ≤ rm.locals) (hW : (rest.map fun v => v.category).sum ≤ 8) (d : decode cc pc = .ok (.invokevirtual idx, 3)) (k : ∀ (σ2 : gm_S), post σ2 → gm_G X E nL (pc + 3) lo (.ref (E.2.2 x2) :: rest) σ2) : gm_G X E nL pc lo (As.reverse ++ .ref (E.2.2 x) :: rest) σ := by
  obtain ⟨p, l, e, R, s, m, args, below, meth, c, cells, slots, Q, A⟩ := X
  intro H locs ls hP hD hS hl
  obtain ⟨hx, hb, hml, hown, hts, hK, hRm, hnm, hA, hlk, hcs, hss⟩ := hC
  subst hRm
  have hF : ∀ q, gm_A E H.size q → A q := by
    rintro q (⟨z, hz, rfl⟩ | h)
    · exact hnm z hz
    · exact hA q (Nat.le_trans hS.1 h)
  obtain ⟨q, hq⟩ := gm_at (E := E) σ ho.1
  have hq2 : (gm_w E σ)[q]? = some (E.2.2 x, .inr (ci, fs (σ.1 x))) := by rw [hq]; simp only [gm_cell, ho.2]
  refine va_callr (va_runV (As := As) (rest := rest) ⟨hx, hb, hml, hown, hts⟩ (hM l H.size) (cwV n hts hT hw hrm.1 hrm.2 hd hR) ⟨gm_blind, va_recv hK hP hc hq2, (fun U hU hW2 => ⟨rfl, by rw [hU], by rw [hU]; exact hP, va_K.moved hW2.alike hK, hD.weaken (fun _ _ _ _ => trivial)⟩)⟩ rfl hn hl.1 rfl (lv_room hW) d ⟨hcs, hss⟩) hS (fun q _ h => hF q h) hF (fun u ra t H1 locs1 ht hvm hw2 hB hz hk hS1 => ?_)
  obtain ⟨rfl, hB⟩ := hB
  obtain ⟨hP1, -, hD1⟩ := hB
  rw [ht] at hP1
  exact k u hw2 H1 locs1 ls hP1 (hD1.weaken (fun _ q _ h => hF q.1 h)) hS1 hl
theorem gk_SI (hC : gm_ok X E cc nL own Ts rm) {post : Int32 → gm_S → Prop} (hM : ∀ l : Launch, gm_MI l E y ws rm2 As σ post) (hT : GoodIn Ts (va_wsS own idx y ws)) (hw : ws = Cond.code y bytes maxL ret :: ws') (hrm : rm2.cells = 0 ∧ rm2.slots = 0) (hn : As.length = n) (hd : y.cls ≠ "java/lang/invoke/MethodHandle" ∧ y.cls ≠ "java/lang/invoke/VarHandle" ∧ (parseMethodDescriptor y.desc).map (fun d => d.parameters.length) = some n) (hR : rm2.frames + 1 ≤ rm.frames ∧ 8 + (maxL + 11) + rm2.locals ≤ rm.locals) (hW : (rest.map fun v => v.category).sum ≤ 8) (d : decode cc pc = .ok (.invokestatic idx, 3)) (k : ∀ (r : Int32) (σ2 : gm_S), post r σ2 → gm_G X E nL (pc + 3) lo (.int r :: rest) σ2) : gm_G X E nL pc lo (As.reverse ++ rest) σ := by
  obtain ⟨p, l, e, R, s, m, args, below, meth, c, cells, slots, Q, A⟩ := X
  intro H locs ls hP hD hS hl
  obtain ⟨hx, hb, hml, hown, hts, hK, hRm, hnm, hA, hlk, hcs, hss⟩ := hC
  subst hRm
  have hF : ∀ q, gm_A E H.size q → A q := by
    rintro q (⟨z, hz, rfl⟩ | h)
    · exact hnm z hz
    · exact hA q (Nat.le_trans hS.1 h)
  refine va_calli (va_runS (As := As) (rest := rest) ⟨hx, hb, hml, hown, hts⟩ (hM l H.size) (va_cwS n hts hT hw hrm.1 hrm.2 hd hR) ⟨gm_blind, (fun U hU hW2 => ⟨rfl, by rw [hU], by rw [hU]; exact hP, va_K.moved hW2.alike hK, hD.weaken (fun _ _ _ _ => trivial)⟩)⟩ rfl hn hl.1 rfl (lv_room hW) d ⟨hcs, hss⟩) hS (fun q _ h => hF q h) hF (fun r u t H1 locs1 ht hvm hw2 hB hz hk hS1 => ?_)
  obtain ⟨hP1, -, hD1⟩ := hB
  rw [ht] at hP1
  exact k r u hw2 H1 locs1 ls hP1 (hD1.weaken (fun _ q _ h => hF q.1 h)) hS1 hl
theorem gk_SV (hC : gm_ok X E cc nL own Ts rm) {post : gm_S → Prop} (hM : ∀ l : Launch, gm_MV l E y ws rm2 As σ post) (hT : GoodIn Ts (va_wsS own idx y ws)) (hw : ws = Cond.code y bytes maxL ret :: ws') (hrm : rm2.cells = 0 ∧ rm2.slots = 0) (hn : As.length = n) (hd : y.cls ≠ "java/lang/invoke/MethodHandle" ∧ y.cls ≠ "java/lang/invoke/VarHandle" ∧ (parseMethodDescriptor y.desc).map (fun d => d.parameters.length) = some n) (hR : rm2.frames + 1 ≤ rm.frames ∧ 8 + (maxL + 11) + rm2.locals ≤ rm.locals) (hW : (rest.map fun v => v.category).sum ≤ 8) (d : decode cc pc = .ok (.invokestatic idx, 3)) (k : ∀ (σ2 : gm_S), post σ2 → gm_G X E nL (pc + 3) lo rest σ2) : gm_G X E nL pc lo (As.reverse ++ rest) σ := by
  obtain ⟨p, l, e, R, s, m, args, below, meth, c, cells, slots, Q, A⟩ := X
  intro H locs ls hP hD hS hl
  obtain ⟨hx, hb, hml, hown, hts, hK, hRm, hnm, hA, hlk, hcs, hss⟩ := hC
  subst hRm
  have hF : ∀ q, gm_A E H.size q → A q := by
    rintro q (⟨z, hz, rfl⟩ | h)
    · exact hnm z hz
    · exact hA q (Nat.le_trans hS.1 h)
  refine va_callv (va_runS (As := As) (rest := rest) ⟨hx, hb, hml, hown, hts⟩ (hM l H.size) (va_cwS n hts hT hw hrm.1 hrm.2 hd hR) ⟨gm_blind, (fun U hU hW2 => ⟨rfl, by rw [hU], by rw [hU]; exact hP, va_K.moved hW2.alike hK, hD.weaken (fun _ _ _ _ => trivial)⟩)⟩ rfl hn hl.1 rfl (lv_room hW) d ⟨hcs, hss⟩) hS (fun q _ h => hF q h) hF (fun u t H1 locs1 ht hvm hw2 hB hz hk hS1 => ?_)
  obtain ⟨hP1, -, hD1⟩ := hB
  rw [ht] at hP1
  exact k u hw2 H1 locs1 ls hP1 (hD1.weaken (fun _ q _ h => hF q.1 h)) hS1 hl
end GK
