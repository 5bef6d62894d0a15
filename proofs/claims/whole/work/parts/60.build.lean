/-! WHAT IS MADE: a world of any cells, in constructors -/
/-- what the tables say of nest mates and of rows of objects -/
def gb_Z (U : State) : Prop := va_Nw (.methodLinkNest RX3 9 yX0_init "ForestPacker") U ∧ va_Nw (.methodLinkNest RX1 59 yX2_init "ForestPacker") U ∧ va_AO "ForestPacker$Packing" U ∧ va_AO "ForestPacker$RootedForest" U
theorem gb_Z_same {u U : State} (h : u.vm = U.vm) (g : gb_Z u) : gb_Z U := ⟨va_Nw.same rfl h g.1, va_Nw.same rfl h g.2.1, va_AO.moved (by rw [h]; exact Vm.Alike.refl _) g.2.2.1, va_AO.moved (by rw [h]; exact Vm.Alike.refl _) g.2.2.2⟩
theorem gb_Z_warm {s U : State} (hW : s.WarmedH U.vm) (g : gb_Z s) : gb_Z U := ⟨va_Nw.warmM hW g.1, va_Nw.warmM hW g.2.1, va_AO.moved hW.alike g.2.2.1, va_AO.moved hW.alike g.2.2.2⟩
def gb_G (X : gm_X) (D : va_G) (nL pc : Nat) (lo : List (Option Value)) (st : List Value) (ce sl : Nat) (ws : va_W) : Prop :=
  match X with
  | (p, l, e, R, s, m, args, below, meth, c, _, _, Q, A) => ∀ (H : Heap) (locs : List Loc) (ls : Array Slot), va_P D vwCl ws H → va_D A ws → va_S A s.heap H locs → gm_lo ls nL lo → W p l e R s m args below meth c H locs ce sl Q (F0 m pc ls st)
def gb_ok (X : gm_X) (D : va_G) (tys : List (ClassId × FieldType)) (cc : ByteArray) (nL : Nat) (own : String) (Ts : List Cond) (rm : Room) : Prop :=
  match X with
  | (p, _, _, R, s, m, args, _, meth, c, _, _, _, A) => p.tables.exec = Jvm.exec ∧ c.code = cc ∧ c.maxLocals = nL ∧ s.vm.findClass own = some m.cls ∧ (∀ w ∈ Ts, w.before args s = true) ∧ va_K D vwCl tys s ∧ R = rm ∧ (∀ q, s.heap.size ≤ q → A q) ∧ meth.locks = false ∧ gb_Z s
/-- this is a constructor -/
def gb_init (X : gm_X) : Prop := match X with
  | (_, _, _, _, _, _, _, _, meth, _, _, _, _, _) => meth.name = "<init>"
section GB
variable {X : gm_X} {D : va_G} {tys : List (ClassId × FieldType)} {cc : ByteArray} {nL pc ce sl : Nat} {own : String} {Ts : List Cond} {rm : Room} {lo : List (Option Value)} {st : List Value} {ws : va_W}
theorem gb_const (hC : gb_ok X D tys cc nL own Ts rm) {n : Int} {v : Int32} (d : decode cc pc = .ok (.iconst n, 1)) (hv : Int32.ofInt n = v) (k : gb_G X D nL (pc + 1) lo (.int v :: st) ce sl ws) : gb_G X D nL pc lo st ce sl ws := by
  obtain ⟨p, l, e, R, s, m, args, below, meth, c, cells, slots, Q, A⟩ := X
  intro H locs ls hP hD hS hl
  exact lv_iconst hC.1 hC.2.1 d hv (k H locs ls hP hD hS hl)
theorem gb_bipush (hC : gb_ok X D tys cc nL own Ts rm) {n : Int} {v : Int32} (d : decode cc pc = .ok (.bipush n, 2)) (hv : (Int8.ofInt n).toInt32 = v) (k : gb_G X D nL (pc + 2) lo (.int v :: st) ce sl ws) : gb_G X D nL pc lo st ce sl ws := by
  obtain ⟨p, l, e, R, s, m, args, below, meth, c, cells, slots, Q, A⟩ := X
  intro H locs ls hP hD hS hl
  exact lv_bipush hC.1 hC.2.1 d hv (k H locs ls hP hD hS hl)
theorem gb_ildn (hC : gb_ok X D tys cc nL own Ts rm) {i : Fin 4} {x : Int32} (d : decode cc pc = .ok (.iload_n i, 1)) (hv : lo[(i : Nat)]? = some (some (.int x))) (k : gb_G X D nL (pc + 1) lo (.int x :: st) ce sl ws) : gb_G X D nL pc lo st ce sl ws := by
  obtain ⟨p, l, e, R, s, m, args, below, meth, c, cells, slots, Q, A⟩ := X
  intro H locs ls hP hD hS hl
  exact lv_iload_n hC.1 hC.2.1 d rfl (hl.2.2 _ _ hv).2 (k H locs ls hP hD hS hl)
theorem gb_aldn (hC : gb_ok X D tys cc nL own Ts rm) {i : Fin 4} {x : Nat} (d : decode cc pc = .ok (.aload_n i, 1)) (hv : lo[(i : Nat)]? = some (some (.ref x))) (k : gb_G X D nL (pc + 1) lo (.ref x :: st) ce sl ws) : gb_G X D nL pc lo st ce sl ws := by
  obtain ⟨p, l, e, R, s, m, args, below, meth, c, cells, slots, Q, A⟩ := X
  intro H locs ls hP hD hS hl
  exact lv_aload_n hC.1 hC.2.1 d rfl (hl.2.2 _ _ hv).2 (k H locs ls hP hD hS hl)
theorem gb_istn0 (hC : gb_ok X D tys cc nL own Ts rm) {i : Fin 4} {x : Int32} (d : decode cc pc = .ok (.istore_n i, 1)) (hn : (i : Nat) < nL) (k : gb_G X D nL (pc + 1) (lo.set (i : Nat) (some (.int x))) st ce sl ws) : gb_G X D nL pc lo (.int x :: st) ce sl ws := by
  obtain ⟨p, l, e, R, s, m, args, below, meth, c, cells, slots, Q, A⟩ := X
  intro H locs ls hP hD hS hl
  exact lv_istore_n hC.1 hC.2.1 d rfl (gm_lo_has hl) hn rfl (fun ls2 h2 => k H locs ls2 hP hD hS (gm_lo_set hl rfl h2))
theorem gb_astn0 (hC : gb_ok X D tys cc nL own Ts rm) {i : Fin 4} {x : Nat} (d : decode cc pc = .ok (.astore_n i, 1)) (hn : (i : Nat) < nL) (k : gb_G X D nL (pc + 1) (lo.set (i : Nat) (some (.ref x))) st ce sl ws) : gb_G X D nL pc lo (.ref x :: st) ce sl ws := by
  obtain ⟨p, l, e, R, s, m, args, below, meth, c, cells, slots, Q, A⟩ := X
  intro H locs ls hP hD hS hl
  exact lv_astore_n hC.1 hC.2.1 d rfl (gm_lo_has hl) hn rfl (fun ls2 h2 => k H locs ls2 hP hD hS (gm_lo_set hl rfl h2))
theorem gb_iinc0 (hC : gb_ok X D tys cc nL own Ts rm) {i : Nat} {n : Int} {x v : Int32} (d : decode cc pc = .ok (.iinc i n, 3)) (hx : lo[i]? = some (some (.int x))) (hv : x + Int32.ofInt n = v) (hn : i < nL) (k : gb_G X D nL (pc + 3) (lo.set i (some (.int v))) st ce sl ws) : gb_G X D nL pc lo st ce sl ws := by
  obtain ⟨p, l, e, R, s, m, args, below, meth, c, cells, slots, Q, A⟩ := X
  intro H locs ls hP hD hS hl
  obtain ⟨j, hj⟩ := List.getElem?_of_mem (gm_prs_mem (lo := lo) (q := (i, .int x)) |>.mpr hx)
  exact lv_iinc hC.1 hC.2.1 d (gm_lo_has hl) hj hv hn rfl (fun ls2 h2 => k H locs ls2 hP hD hS (gm_lo_set hl rfl h2))
theorem gb_istn_1 (hC : gb_ok X D tys cc nL own Ts rm) {x : Int32} {a0 a1 : Option Value} {tl : List (Option Value)} (d : decode cc pc = .ok (.istore_n 1, 1)) (hn : 1 < nL) (k : gb_G X D nL (pc + 1) (a0 :: some (.int x) :: tl) st ce sl ws) : gb_G X D nL pc (a0 :: a1 :: tl) (.int x :: st) ce sl ws := gb_istn0 hC (i := 1) d hn k
theorem gb_istn_2 (hC : gb_ok X D tys cc nL own Ts rm) {x : Int32} {a0 a1 a2 : Option Value} {tl : List (Option Value)} (d : decode cc pc = .ok (.istore_n 2, 1)) (hn : 2 < nL) (k : gb_G X D nL (pc + 1) (a0 :: a1 :: some (.int x) :: tl) st ce sl ws) : gb_G X D nL pc (a0 :: a1 :: a2 :: tl) (.int x :: st) ce sl ws := gb_istn0 hC (i := 2) d hn k
theorem gb_istn_3 (hC : gb_ok X D tys cc nL own Ts rm) {x : Int32} {a0 a1 a2 a3 : Option Value} {tl : List (Option Value)} (d : decode cc pc = .ok (.istore_n 3, 1)) (hn : 3 < nL) (k : gb_G X D nL (pc + 1) (a0 :: a1 :: a2 :: some (.int x) :: tl) st ce sl ws) : gb_G X D nL pc (a0 :: a1 :: a2 :: a3 :: tl) (.int x :: st) ce sl ws := gb_istn0 hC (i := 3) d hn k
theorem gb_astn_1 (hC : gb_ok X D tys cc nL own Ts rm) {x : Nat} {a0 a1 : Option Value} {tl : List (Option Value)} (d : decode cc pc = .ok (.astore_n 1, 1)) (hn : 1 < nL) (k : gb_G X D nL (pc + 1) (a0 :: some (.ref x) :: tl) st ce sl ws) : gb_G X D nL pc (a0 :: a1 :: tl) (.ref x :: st) ce sl ws := gb_astn0 hC (i := 1) d hn k
theorem gb_astn_2 (hC : gb_ok X D tys cc nL own Ts rm) {x : Nat} {a0 a1 a2 : Option Value} {tl : List (Option Value)} (d : decode cc pc = .ok (.astore_n 2, 1)) (hn : 2 < nL) (k : gb_G X D nL (pc + 1) (a0 :: a1 :: some (.ref x) :: tl) st ce sl ws) : gb_G X D nL pc (a0 :: a1 :: a2 :: tl) (.ref x :: st) ce sl ws := gb_astn0 hC (i := 2) d hn k
theorem gb_iinc_1 (hC : gb_ok X D tys cc nL own Ts rm) {n : Int} {x v : Int32} {a0 : Option Value} {tl : List (Option Value)} (d : decode cc pc = .ok (.iinc 1 n, 3)) (hv : x + Int32.ofInt n = v) (hn : 1 < nL) (k : gb_G X D nL (pc + 3) (a0 :: some (.int v) :: tl) st ce sl ws) : gb_G X D nL pc (a0 :: some (.int x) :: tl) st ce sl ws := gb_iinc0 hC (i := 1) d rfl hv hn k
theorem gb_iinc_2 (hC : gb_ok X D tys cc nL own Ts rm) {n : Int} {x v : Int32} {a0 a1 : Option Value} {tl : List (Option Value)} (d : decode cc pc = .ok (.iinc 2 n, 3)) (hv : x + Int32.ofInt n = v) (hn : 2 < nL) (k : gb_G X D nL (pc + 3) (a0 :: a1 :: some (.int v) :: tl) st ce sl ws) : gb_G X D nL pc (a0 :: a1 :: some (.int x) :: tl) st ce sl ws := gb_iinc0 hC (i := 2) d rfl hv hn k
theorem gb_dup (hC : gb_ok X D tys cc nL own Ts rm) {v : Value} (d : decode cc pc = .ok (.dup, 1)) (hv : v.category = 1) (k : gb_G X D nL (pc + 1) lo (v :: v :: st) ce sl ws) : gb_G X D nL pc lo (v :: st) ce sl ws := by
  obtain ⟨p, l, e, R, s, m, args, below, meth, c, cells, slots, Q, A⟩ := X
  intro H locs ls hP hD hS hl
  exact lv_dup hC.1 hC.2.1 d hv (k H locs ls hP hD hS hl)
theorem gb_icmp_ge (hC : gb_ok X D tys cc nL own Ts rm) {x y : Int32} {off : Int} (tgt : Nat) (d : decode cc pc = .ok (.if_icmp .ge off, 3)) (ht : (pc : Int) + off = (tgt : Int)) (kt : y ≤ x → gb_G X D nL tgt lo st ce sl ws) (kf : ¬ y ≤ x → gb_G X D nL (pc + 3) lo st ce sl ws) : gb_G X D nL pc lo (.int y :: .int x :: st) ce sl ws := by
  obtain ⟨p, l, e, R, s, m, args, below, meth, c, cells, slots, Q, A⟩ := X
  intro H locs ls hP hD hS hl
  exact lv_icmp_ge hC.1 hC.2.1 d ht (fun h => kt h H locs ls hP hD hS hl) (fun h => kf h H locs ls hP hD hS hl)
theorem gb_icmp_gt (hC : gb_ok X D tys cc nL own Ts rm) {x y : Int32} {off : Int} (tgt : Nat) (d : decode cc pc = .ok (.if_icmp .gt off, 3)) (ht : (pc : Int) + off = (tgt : Int)) (kt : y < x → gb_G X D nL tgt lo st ce sl ws) (kf : ¬ y < x → gb_G X D nL (pc + 3) lo st ce sl ws) : gb_G X D nL pc lo (.int y :: .int x :: st) ce sl ws := by
  obtain ⟨p, l, e, R, s, m, args, below, meth, c, cells, slots, Q, A⟩ := X
  intro H locs ls hP hD hS hl
  exact lv_icmp_gt hC.1 hC.2.1 d ht (fun h => kt h H locs ls hP hD hS hl) (fun h => kf h H locs ls hP hD hS hl)
theorem gb_goto (hC : gb_ok X D tys cc nL own Ts rm) {off : Int} (tgt : Nat) (d : decode cc pc = .ok (.goto off, 3)) (ht : (pc : Int) + off = (tgt : Int)) (k : gb_G X D nL tgt lo st ce sl ws) : gb_G X D nL pc lo st ce sl ws := by
  obtain ⟨p, l, e, R, s, m, args, below, meth, c, cells, slots, Q, A⟩ := X
  intro H locs ls hP hD hS hl
  exact lv_goto hC.1 hC.2.1 d ht (k H locs ls hP hD hS hl)
theorem gb_widen {k n : Nat} (h1 : ce ≤ k) (h2 : sl ≤ n) (g : gb_G X D nL pc lo st k n ws) : gb_G X D nL pc lo st ce sl ws := by
  obtain ⟨p, l, e, R, s, m, args, below, meth, c, cells, slots, Q, A⟩ := X
  intro H locs ls hP hD hS hl
  exact W.widen h1 h2 (g H locs ls hP hD hS hl)
/-- another list of the same cells -/
theorem gb_re {ws2 : va_W} (hP2 : ∀ H, va_P D vwCl ws H → va_P D vwCl ws2 H) (hD2 : ∀ A, va_D A ws → va_D A ws2) (g : gb_G X D nL pc lo st ce sl ws2) : gb_G X D nL pc lo st ce sl ws := by
  obtain ⟨p, l, e, R, s, m, args, below, meth, c, cells, slots, Q, A⟩ := X
  intro H locs ls hP hD hS hl
  exact g H locs ls (hP2 H hP) (hD2 A hD) hS hl
theorem gb_objInit {c0 : Cond} {idx x : Nat} (hC : gb_ok X D tys cc nL own (c0 :: gw_T) rm) (hlk : Cond.methodLink own idx Lib.objectInit ∈ gw_T) (hf : 1 ≤ rm.frames ∧ 20 ≤ rm.locals) (hW : (st.map fun v => v.category).sum ≤ 8) (d : decode cc pc = .ok (.invokespecial idx, 3)) (k : gb_G X D nL (pc + 3) lo st ce sl ws) : gb_G X D nL pc lo (.ref x :: st) ce sl ws := by
  obtain ⟨p, l, e, R, s, m, args, below, meth, c, cells, slots, Q, A⟩ := X
  intro H locs ls hP hD hS hl
  obtain ⟨hx, hb, hml, hown, hts, hK, hRm, hA, hlk2, hZ⟩ := hC
  subst hRm
  refine W.objInit hx hb hown (hts _ (List.mem_cons_of_mem _ hlk)) (hts _ (List.mem_cons_of_mem _ gw_37)) (hts _ (List.mem_cons_of_mem _ gw_38)) rfl (hl.1.trans hml.symm) rfl d hf.1 ?_ ?_
  · have := lv_room (m := m) (pc := pc) (ls := ls) (rest := .ref x :: st) hW
    omega
  · refine W.eq (g2 := F0 m (pc + 3) ls st) rfl ?_
    exact k H locs ls hP hD hS hl
theorem gb_new {c0 : Cond} {idx ci N : Nat} {C : String} {T : u_T} {fs : List Value} (hC : gb_ok X D tys cc nL own (c0 :: gw_T) rm) (hc : vwCl[ci]? = some (C, T, N)) (hin : ∀ w ∈ u_ws C T N, w ∈ gw_T) (ty : Nat → FieldType) (hty : ∀ k, k < N → parseFieldDescriptor (T k).2.2.1 = some (ty k)) (hcl : Cond.classLink own idx C ∈ gw_T) (hinst : Cond.instantiable C N ∈ gw_T) (hini : Cond.initialized C ∈ gw_T) (hfs : ∀ j, j < N → defaultValue (ty j) = vp_V fs j) (hcs : ce + 1 ≤ rm.cells) (hss : sl + N ≤ rm.slots) (d : decode cc pc = .ok (.new idx, 3)) (k : ∀ q : Nat, gb_G X D nL (pc + 3) lo (.ref q :: st) (ce + 1) (sl + N) (ws ++ [(q, .inr (ci, fs))])) : gb_G X D nL pc lo st ce sl ws := by
  obtain ⟨p, l, e, R, s, m, args, below, meth, c, cells, slots, Q, A⟩ := X
  intro H locs ls hP hD hS hl
  obtain ⟨hx, hb, hml, hown, hts, hK, hRm, hA, hlk2, hZ⟩ := hC
  subst hRm
  exact va_new (ci := ci) (fs := fs) hx hb hts (fun w h => List.mem_cons_of_mem _ (hin w h)) ty hty hown (hts _ (List.mem_cons_of_mem _ hcl)) (hts _ (List.mem_cons_of_mem _ hinst)) (hts _ (List.mem_cons_of_mem _ hini)) hK hP hD hS hA hc hfs hcs hss d (fun q H1 hP1 hD1 hS1 => k q H1 locs ls hP1 hD1 hS1 hl)
theorem gb_newI {c0 : Cond} {t0 N : Nat} {cI : ClassId} (hC : gb_ok X D tys cc nL own (c0 :: gw_T) rm) (ht : tys[t0]? = some (cI, .int)) (hN : N ≤ 48) (hcs : ce + 1 ≤ rm.cells) (hss : sl + N ≤ rm.slots) (d : decode cc pc = .ok (.newarray .int, 2)) (k : ∀ q : Nat, gb_G X D nL (pc + 2) lo (.ref q :: st) (ce + 1) (sl + N) (ws ++ [(q, .inl (cI, N, .inl (fun _ => 0)))])) : gb_G X D nL pc lo (.int (nI N) :: st) ce sl ws := by
  obtain ⟨p, l, e, R, s, m, args, below, meth, c, cells, slots, Q, A⟩ := X
  intro H locs ls hP hD hS hl
  obtain ⟨hx, hb, hml, hown, hts, hK, hRm, hA, hlk2, hZ⟩ := hC
  subst hRm
  refine va_newa (atype := .int) (ty := .int) (a0 := (N, .inl (fun _ => 0))) hx hb (hts _ (List.mem_cons_of_mem _ gw_64)) rfl hK hP hD hS hA (fun cA => rfl) (nI_pos (by omega)) (nI_clamp (by omega)) (by show N * 4 ≤ _; omega) hcs hss d (fun q cA H1 hK1 hP1 hD1 hS1 => ?_)
  have e1 := (hK.2 t0 _ ht).2
  have e2 := (hK1.2 tys.length (cA, .int) (by simp)).2
  have e3 : cA = cI := Option.some.inj (e2.symm.trans e1)
  subst e3
  exact k q H1 locs ls hP1 hD1 hS1 hl
theorem gb_newZ {c0 : Cond} {t0 N : Nat} {cI : ClassId} (hC : gb_ok X D tys cc nL own (c0 :: gw_T) rm) (ht : tys[t0]? = some (cI, .boolean)) (hN : N ≤ 48) (hcs : ce + 1 ≤ rm.cells) (hss : sl + N ≤ rm.slots) (d : decode cc pc = .ok (.newarray .boolean, 2)) (k : ∀ q : Nat, gb_G X D nL (pc + 2) lo (.ref q :: st) (ce + 1) (sl + N) (ws ++ [(q, .inl (cI, N, .inl (fun _ => 0)))])) : gb_G X D nL pc lo (.int (nI N) :: st) ce sl ws := by
  obtain ⟨p, l, e, R, s, m, args, below, meth, c, cells, slots, Q, A⟩ := X
  intro H locs ls hP hD hS hl
  obtain ⟨hx, hb, hml, hown, hts, hK, hRm, hA, hlk2, hZ⟩ := hC
  subst hRm
  refine va_newa (atype := .boolean) (ty := .boolean) (a0 := (N, .inl (fun _ => 0))) hx hb (hts _ (List.mem_cons_of_mem _ gw_350)) rfl hK hP hD hS hA (fun cA => rfl) (nI_pos (by omega)) (nI_clamp (by omega)) (by show N * 1 ≤ _; omega) hcs hss d (fun q cA H1 hK1 hP1 hD1 hS1 => ?_)
  have e1 := (hK.2 t0 _ ht).2
  have e2 := (hK1.2 tys.length (cA, .boolean) (by simp)).2
  have e3 : cA = cI := Option.some.inj (e2.symm.trans e1)
  subst e3
  exact k q H1 locs ls hP1 hD1 hS1 hl
theorem gb_newq {c0 : Cond} {idx t0 N : Nat} {C : String} {cP : ClassId} (hC : gb_ok X D tys cc nL own (c0 :: gw_T) rm) (ht : tys[t0]? = some (cP, .object C)) (hcl : Cond.classLink own idx C ∈ gw_T) (hAO : ∀ U, gb_Z U → va_AO C U) (hN : N ≤ 48) (hcs : ce + 1 ≤ rm.cells) (hss : sl + N ≤ rm.slots) (d : decode cc pc = .ok (.anewarray idx, 3)) (k : ∀ q : Nat, gb_G X D nL (pc + 3) lo (.ref q :: st) (ce + 1) (sl + N) (ws ++ [(q, .inl (cP, N, .inr (.inr (.inr (.inr (fun _ => none))))))])) : gb_G X D nL pc lo (.int (nI N) :: st) ce sl ws := by
  obtain ⟨p, l, e, R, s, m, args, below, meth, c, cells, slots, Q, A⟩ := X
  intro H locs ls hP hD hS hl
  obtain ⟨hx, hb, hml, hown, hts, hK, hRm, hA, hlk2, hZ⟩ := hC
  subst hRm
  refine va_newq hx hb hown (hts _ (List.mem_cons_of_mem _ hcl)) (hAO s hZ) hK hP hD hS hA (nI_pos (by omega)) (nI_clamp (by omega)) (by omega) hcs hss d (fun q cA H1 hK1 hP1 hD1 hS1 => ?_)
  obtain ⟨_, _, _, _, _, e1⟩ := (hK.2 t0 _ ht).2
  obtain ⟨_, _, _, _, _, e2⟩ := (hK1.2 tys.length (cA, .object C) (by simp)).2
  have e3 : cA = cP := Option.some.inj (e2.symm.trans e1)
  subst e3
  exact k q H1 locs ls hP1 hD1 hS1 hl
theorem gb_putF {c0 : Cond} {idx ci N a : Nat} {C : String} {T : u_T} {fs : List Value} {ty : FieldType} {v : Value} (hC : gb_ok X D tys cc nL own (c0 :: gw_T) rm) (hi : gb_init X) (q0 : Nat) (he : ws[q0]? = some (a, .inr (ci, fs))) (hc : vwCl[ci]? = some (C, T, N)) (hin : ∀ w ∈ u_ws C T N, w ∈ gw_T) (ty0 : Nat → FieldType) (hty : ∀ k, k < N → parseFieldDescriptor (T k).2.2.1 = some (ty0 k)) (hnm : ∀ a, a < N → ∀ b, b < N → a ≠ b → (T a).2.1 ≠ (T b).2.1) (j : Nat) (hj : j < N) (hlk : Cond.fieldLink own idx (T j).1 (T j).2.1 (T j).2.2.1 ∈ gw_T) (hfin : (T j).2.2.2 = true) (hdecl : (T j).1 = own) (hd : parseFieldDescriptor (T j).2.2.1 = some ty) (hn : narrow ty v = v) (hfit : fits ty v = true) (hl : j < fs.length) (d : decode cc pc = .ok (.putfield idx, 3)) (k : gb_G X D nL (pc + 3) lo st ce sl (ws.set q0 (a, .inr (ci, fs.set j v)))) : gb_G X D nL pc lo (v :: .ref a :: st) ce sl ws := by
  obtain ⟨p, l, e, R, s, m, args, below, meth, c, cells, slots, Q, A⟩ := X
  intro H locs ls hP hD hS hl2
  obtain ⟨hx, hb, hml, hown, hts, hK, hRm, hA, hlk2, hZ⟩ := hC
  exact va_putF hx hb hts (fun w h => List.mem_cons_of_mem _ (hin w h)) ty0 hty hnm hown hK hP hD hS q0 he hc j hj (hts _ (List.mem_cons_of_mem _ hlk)) (fun _ h => h) hfin hi hdecl hd hn hfit hl d (fun H1 locs1 hP1 hD1 hS1 => k H1 locs1 ls hP1 hD1 hS1 hl2)
theorem gb_put {c0 : Cond} {idx ci N a : Nat} {C : String} {T : u_T} {fs : List Value} {ty : FieldType} {v : Value} (hC : gb_ok X D tys cc nL own (c0 :: gw_T) rm) (q0 : Nat) (he : ws[q0]? = some (a, .inr (ci, fs))) (hc : vwCl[ci]? = some (C, T, N)) (hin : ∀ w ∈ u_ws C T N, w ∈ gw_T) (ty0 : Nat → FieldType) (hty : ∀ k, k < N → parseFieldDescriptor (T k).2.2.1 = some (ty0 k)) (hnm : ∀ a, a < N → ∀ b, b < N → a ≠ b → (T a).2.1 ≠ (T b).2.1) (j : Nat) (hj : j < N) (hlk : Cond.fieldLink own idx (T j).1 (T j).2.1 (T j).2.2.1 ∈ gw_T) (hfin : (T j).2.2.2 = false) (hd : parseFieldDescriptor (T j).2.2.1 = some ty) (hn : narrow ty v = v) (hfit : fits ty v = true) (hl : j < fs.length) (d : decode cc pc = .ok (.putfield idx, 3)) (k : gb_G X D nL (pc + 3) lo st ce sl (ws.set q0 (a, .inr (ci, fs.set j v)))) : gb_G X D nL pc lo (v :: .ref a :: st) ce sl ws := by
  obtain ⟨p, l, e, R, s, m, args, below, meth, c, cells, slots, Q, A⟩ := X
  intro H locs ls hP hD hS hl2
  obtain ⟨hx, hb, hml, hown, hts, hK, hRm, hA, hlk2, hZ⟩ := hC
  exact va_put hx hb hts (fun w h => List.mem_cons_of_mem _ (hin w h)) ty0 hty hnm hown hK hP hD hS q0 he hc j hj (hts _ (List.mem_cons_of_mem _ hlk)) (fun _ h => h) hfin hd hn hfit hl d (fun H1 locs1 hP1 hD1 hS1 => k H1 locs1 ls hP1 hD1 hS1 hl2)
theorem gb_get {c0 : Cond} {idx ci N a : Nat} {C : String} {T : u_T} {fs : List Value} {v : Value} (hC : gb_ok X D tys cc nL own (c0 :: gw_T) rm) (q0 : Nat) (he : ws[q0]? = some (a, .inr (ci, fs))) (hc : vwCl[ci]? = some (C, T, N)) (hin : ∀ w ∈ u_ws C T N, w ∈ gw_T) (j : Nat) (hj : j < N) (hlk : Cond.fieldLink own idx (T j).1 (T j).2.1 (T j).2.2.1 ∈ gw_T) (hv : fs[j]? = some v) (d : decode cc pc = .ok (.getfield idx, 3)) (k : gb_G X D nL (pc + 3) lo (v :: st) ce sl ws) : gb_G X D nL pc lo (.ref a :: st) ce sl ws := by
  obtain ⟨p, l, e, R, s, m, args, below, meth, c, cells, slots, Q, A⟩ := X
  intro H locs ls hP hD hS hl2
  obtain ⟨hx, hb, hml, hown, hts, hK, hRm, hA, hlk2, hZ⟩ := hC
  exact va_get hx hb hts (fun w h => List.mem_cons_of_mem _ (hin w h)) hown hK hP q0 he hc j hj (hts _ (List.mem_cons_of_mem _ hlk)) (fun _ h => h) hv d (k H locs ls hP hD hS hl2)
theorem gb_alen {a N : Nat} {cA : ClassId} {y : Sum (Nat → Int32) (Sum (Nat → Int64) (Sum (Nat → UInt32) (Sum (Nat → UInt64) (Nat → Option Nat))))} {ty : FieldType} (hC : gb_ok X D tys cc nL own Ts rm) (q0 t0 : Nat) (he : ws[q0]? = some (a, .inl (cA, N, y))) (ht : tys[t0]? = some (cA, ty)) (d : decode cc pc = .ok (.arraylength, 1)) (k : gb_G X D nL (pc + 1) lo (.int (nI N) :: st) ce sl ws) : gb_G X D nL pc lo (.ref a :: st) ce sl ws := by
  obtain ⟨p, l, e, R, s, m, args, below, meth, c, cells, slots, Q, A⟩ := X
  intro H locs ls hP hD hS hl2
  obtain ⟨hx, hb, hml, hown, hts, hK, hRm, hA, hlk2, hZ⟩ := hC
  exact va_alen hx hb hK hP q0 t0 he ht rfl d (k H locs ls hP hD hS hl2)
theorem gb_astq {a N v ci j : Nat} {cA : ClassId} {r : vw_C} {vs : List Value} {f : Nat → Option Nat} (hC : gb_ok X D tys cc nL own Ts rm) (q0 t0 qk : Nat) (he : ws[q0]? = some (a, .inl (cA, N, .inr (.inr (.inr (.inr f)))))) (ht : tys[t0]? = some (cA, .object r.1)) (hv : ws[qk]? = some (v, .inr (ci, vs))) (hc : vwCl[ci]? = some r) (hj : j < N) (hN : N ≤ 48) (d : decode cc pc = .ok (.aastore, 1)) (k : gb_G X D nL (pc + 1) lo st ce sl (ws.set q0 (a, .inl (cA, N, .inr (.inr (.inr (.inr (va_up f j (some v))))))))) : gb_G X D nL pc lo (.ref v :: .int (nI j) :: .ref a :: st) ce sl ws := by
  obtain ⟨p, l, e, R, s, m, args, below, meth, c, cells, slots, Q, A⟩ := X
  intro H locs ls hP hD hS hl2
  obtain ⟨hx, hb, hml, hown, hts, hK, hRm, hA, hlk2, hZ⟩ := hC
  refine va_astq hx hb hK hP hD hS q0 t0 qk ci he ht hv hc (vp_in_nI hj (by omega)) d (fun H1 locs1 hP1 hD1 hS1 => ?_)
  rw [nI_clamp (by omega)] at hP1 hD1
  exact k H1 locs1 ls hP1 hD1 hS1 hl2
theorem gb_max {c0 : Cond} {idx : Nat} {x y : Int32} (hC : gb_ok X D tys cc nL own (c0 :: gw_T) rm) (hlk : Cond.methodLink own idx Lib.Math.max.name ∈ gw_T) (hf : 1 ≤ rm.frames) (hlo : (st.map fun v => v.category).sum + 13 ≤ rm.locals) (hcs : ce ≤ rm.cells) (hss : sl ≤ rm.slots) (d : decode cc pc = .ok (.invokestatic idx, 3)) (k : gb_G X D nL (pc + 3) lo (.int (if x < y then y else x) :: st) ce sl ws) : gb_G X D nL pc lo (.int y :: .int x :: st) ce sl ws := by
  obtain ⟨p, l, e, R, s, m, args, below, meth, c, cells, slots, Q, A⟩ := X
  intro H locs ls hP hD hS hl
  obtain ⟨hx, hb, hml, hown, hts, hK, hRm, hA, hlk2, hZ⟩ := hC
  subst hRm
  exact va_mmax hx hb (hml.trans hl.1.symm) hown (hts _ (List.mem_cons_of_mem _ hlk)) (hts _ (List.mem_cons_of_mem _ gws_max)) (hts _ (List.mem_cons_of_mem _ gw_26)) (hts _ (List.mem_cons_of_mem _ gwc_max)) hf hlo hcs hss d (k H locs ls hP hD hS hl)
end GB
/-! contracts of constructors -/
def gb_pre (D : va_G) (tys : List (ClassId × FieldType)) (h0 : Nat) (w0 : va_E) (sz : Nat) : State → Prop := fun U => U.heap.size = sz ∧ va_P D vwCl [(h0, w0)] U.heap ∧ va_K D vwCl tys U ∧ va_D (fun _ => True) [(h0, w0)] ∧ gb_Z U
def gb_M (l : Launch) (D : va_G) (tys : List (ClassId × FieldType)) (y : MethodName) (wd : List Cond) (rm : Room) (h0 : Nat) (As : List Value) (w0 : va_E) (S : Type) (w1 : S → va_W) : Prop := ∀ sz : Nat, Met l y wd rm (va_Pc (.ref h0 :: As) (gb_pre D tys h0 w0 sz)) (va_Qv (fun _ : S => True) (fun u t => va_P D vwCl (w1 u) t.heap ∧ va_D (va_A [(h0, w0)] sz) (w1 u)) (va_A [(h0, w0)] sz)) rm.cells rm.slots (va_A [(h0, w0)] sz)
theorem gb_blind {av : List Value} {D : va_G} {tys : List (ClassId × FieldType)} {h0 : Nat} {w0 : va_E} {sz : Nat} : FrameBlind (va_Pc av (gb_pre D tys h0 w0 sz)) := fun a U g mk q => by
  obtain ⟨q0, q1, qP, qK, qD, qZ⟩ := q
  exact ⟨q0, q1, qP, va_K.moved (u := U) (U := U.calling g mk a) (Vm.Alike.refl U.vm) qK, qD, gb_Z_same (u := U) rfl qZ⟩
theorem gb_enter {l : Launch} {D : va_G} {tys : List (ClassId × FieldType)} {y : MethodName} {wd ws' : List Cond} {rm : Room} {h0 : Nat} {As : List Value} {w0 : va_E} {S : Type} {w1 : S → va_W} {cc : ByteArray} {maxL : Nat} (own : String) (hy : plainName y.cls = true) (hyn : y.name = "<init>") (hw : wd = Cond.code y cc maxL none :: ws') (hown : y.cls = own) (hn : As.length + 1 ≤ maxL) (hc : ∀ v ∈ Value.ref h0 :: As, v.category = 1)
    (body : ∀ X : gm_X, gb_ok X D tys cc maxL own wd rm → gb_init X → (∀ (u : S) (pc : Nat) (lo : List (Option Value)), decode cc pc = .ok (.return_, 1) → gb_G X D maxL pc lo [] rm.cells rm.slots (w1 u)) → gb_G X D maxL 0 (gm_lo0 (.ref h0 :: As) maxL) [] 0 0 [(h0, w0)]) : gb_M l D tys y wd rm h0 As w0 S w1 := by
  intro sz
  refine Met.ofW (cc := cc) (maxL := maxL) (ret := none) hy hw ?_
  intro p e s m args below meth c s₁ B hml hv
  obtain ⟨rfl, hsz, hP, hK, hD0, hZ⟩ := hv
  subst hsz
  have hlocks := B.notSynchronized
  have hf : s.vm.findClass own = some m.cls := by rw [← hown]; exact findClass_of_methodNamed B.named
  have hin : meth.name = "<init>" := by rw [← hyn]; exact (name_of_methodNamed B.named B.method).1
  have h := body (p, l, e, (headSpec wd rm).room, s, m, (Value.ref h0 :: As).toArray, below, meth, c, 0, 0, MQ below (va_Qv (fun _ : S => True) (fun u t => va_P D vwCl (w1 u) t.heap ∧ va_D (va_A [(h0, w0)] s.heap.size) (w1 u)) (va_A [(h0, w0)] s.heap.size)) (Value.ref h0 :: As).toArray s rm.cells rm.slots (va_A [(h0, w0)] s.heap.size), va_A [(h0, w0)] s.heap.size)
    ⟨B.exec, B.bytes, hml, hf, atoms_spec (ws := wd) B.pre, hK, rfl, fun q hq => Or.inr hq, hlocks, hZ⟩ hin
    (fun u pc lo d H locs ls hP hD hS hl => W.vret B.exec B.bytes B.returns (fun t ht hW => ⟨⟨u, rfl, trivial, by rw [ht]; exact hP, hD⟩, hS.F ht⟩) hS.2.2 d hlocks)
  rw [lg_entry_eq]
  exact h s.heap [] _ hP hD0.self va_S.rf (gm_entry hc (by simpa using hn))
section GBC
variable {X : gm_X} {D : va_G} {tys : List (ClassId × FieldType)} {cc bytes : ByteArray} {nL pc ce sl idx maxL n h0 : Nat} {own : String} {c0 : Cond} {rm rm2 : Room} {lo : List (Option Value)} {rest As : List Value} {ws : va_W} {y : MethodName} {w0 : va_E} {S : Type} {w1 : S → va_W}
theorem gb_lastC {x : Nat × va_E} : [ws.length].map (fun i => (ws ++ [x])[i]?) = [x].map some := by simp
theorem gb_restC {x : Nat × va_E} : (List.range ws.length).map (fun i => (ws ++ [x])[i]?) = ws.map some := by
  apply List.ext_getElem?
  intro i
  rw [List.getElem?_map, List.getElem?_map]
  by_cases h : i < ws.length
  · rw [List.getElem?_range h, Option.map_some, List.getElem?_append_left h, List.getElem?_eq_getElem h]
    rfl
  · rw [List.getElem?_eq_none (by simpa using h), List.getElem?_eq_none (by omega)]
    rfl
theorem va_nd_range : ∀ n, va_nd (List.range n) = true := by
  have key : ∀ (l : List Nat), l.Nodup → va_nd l = true := by
    intro l
    induction l with
    | nil => intro _; rfl
    | cons a l ih =>
      intro h
      obtain ⟨h1, h2⟩ := List.nodup_cons.mp h
      have := ih h2
      simp only [va_nd, Bool.and_eq_true, this]
      simpa using h1
  exact fun n => key _ List.nodup_range
theorem gb_callI (hC : gb_ok X D tys cc nL own (c0 :: gw_T) rm) (hM : ∀ l : Launch, gb_M l D tys y (.code y bytes maxL none :: gw_T) rm2 h0 As w0 S w1) (hlk : Cond.methodLink own idx y ∈ gw_T) (him : Cond.instanceMethod y ∈ gw_T) (hini : Cond.initialized y.cls ∈ gw_T) (hcw : Cond.code y bytes maxL none ∈ gw_T) (hyn : y.name = "<init>") (hn : As.length = n) (hd : y.cls ≠ "java/lang/invoke/MethodHandle" ∧ y.cls ≠ "java/lang/invoke/VarHandle" ∧ (parseMethodDescriptor y.desc).map (fun d => d.parameters.length) = some n) (hR : rm2.frames + 1 ≤ rm.frames ∧ 8 + (maxL + 11) + rm2.locals ≤ rm.locals) (hW : (rest.map fun v => v.category).sum ≤ 8) (hcs : ce + rm2.cells ≤ rm.cells ∧ sl + rm2.slots ≤ rm.slots) (d : decode cc pc = .ok (.invokespecial idx, 3)) (k : ∀ u : S, gb_G X D nL (pc + 3) lo rest (ce + rm2.cells) (sl + rm2.slots) (ws ++ w1 u)) : gb_G X D nL pc lo (As.reverse ++ .ref h0 :: rest) ce sl (ws ++ [(h0, w0)]) := by
  obtain ⟨p, l, e, R, s, m, args, below, meth, c, cells, slots, Q, A⟩ := X
  intro H locs ls hP hD hS hl
  obtain ⟨hx, hb, hml, hown, hts, hK, hRm, hA, hlk2, hZ⟩ := hC
  subst hRm
  have hPc : va_P D vwCl [(h0, w0)] H := hP.sub (ws' := [(h0, w0)]) [ws.length] (by simp)
  have hDc := hD.sub (ws' := [(h0, w0)]) [ws.length] rfl gb_lastC
  have hFc := va_free (wc := [(h0, w0)]) hD hS hA [ws.length] gb_lastC
  refine va_callv (va_runI (As := As) (rest := rest) ⟨hx, hb, hml, hown, hts⟩ (hM l H.size) (cwI n hts (gw_I hcw) rfl rfl rfl (hts _ (List.mem_cons_of_mem _ hini)) (hts _ (List.mem_cons_of_mem _ hlk)) (hts _ (List.mem_cons_of_mem _ him)) hyn hd hR) ⟨gb_blind, fun U hU hW2 => ⟨rfl, by rw [hU], by rw [hU]; exact hPc, va_K.moved hW2.alike hK, hDc.weaken (fun _ _ _ _ => trivial), gb_Z_warm hW2 hZ⟩⟩ rfl hn hl.1 rfl (lv_room hW) d hcs) hS (fun q _ h => hFc q h) hFc (fun u t H1 locs1 ht hvm hw2 hB hz hk hS1 => ?_)
  obtain ⟨hP1, hD1⟩ := hB
  rw [ht] at hP1
  obtain ⟨hP2, hD2⟩ := va_join (wr := ws) (w1 := w1 u) hP hD [ws.length] (List.range ws.length) gb_lastC gb_restC (va_nd_range _) (by simp; omega) hk hFc hP1 hD1
  exact k u H1 locs1 ls hP2 hD2 hS1 hl
theorem gb_callN {host : String} (hC : gb_ok X D tys cc nL own (c0 :: gw_T) rm) (hM : ∀ l : Launch, gb_M l D tys y (.code y bytes maxL none :: gw_T) rm2 h0 As w0 S w1) (hlk : ∀ U, gb_Z U → va_Nw (.methodLinkNest own idx y host) U) (him : Cond.instanceMethod y ∈ gw_T) (hini : Cond.initialized y.cls ∈ gw_T) (hcw : Cond.code y bytes maxL none ∈ gw_T) (hyn : y.name = "<init>") (hn : As.length = n) (hd : y.cls ≠ "java/lang/invoke/MethodHandle" ∧ y.cls ≠ "java/lang/invoke/VarHandle" ∧ (parseMethodDescriptor y.desc).map (fun d => d.parameters.length) = some n) (hR : rm2.frames + 1 ≤ rm.frames ∧ 8 + (maxL + 11) + rm2.locals ≤ rm.locals) (hW : (rest.map fun v => v.category).sum ≤ 8) (hcs : ce + rm2.cells ≤ rm.cells ∧ sl + rm2.slots ≤ rm.slots) (d : decode cc pc = .ok (.invokespecial idx, 3)) (k : ∀ u : S, gb_G X D nL (pc + 3) lo rest (ce + rm2.cells) (sl + rm2.slots) (ws ++ w1 u)) : gb_G X D nL pc lo (As.reverse ++ .ref h0 :: rest) ce sl (ws ++ [(h0, w0)]) := by
  obtain ⟨p, l, e, R, s, m, args, below, meth, c, cells, slots, Q, A⟩ := X
  intro H locs ls hP hD hS hl
  obtain ⟨hx, hb, hml, hown, hts, hK, hRm, hA, hlk2, hZ⟩ := hC
  subst hRm
  have hPc : va_P D vwCl [(h0, w0)] H := hP.sub (ws' := [(h0, w0)]) [ws.length] (by simp)
  have hDc := hD.sub (ws' := [(h0, w0)]) [ws.length] rfl gb_lastC
  have hFc := va_free (wc := [(h0, w0)]) hD hS hA [ws.length] gb_lastC
  refine va_callv (va_runIN (As := As) (rest := rest) ⟨hx, hb, hml, hown, hts⟩ (hM l H.size) ⟨va_cnB n hts (gw_I hcw) rfl rfl rfl (hlk s hZ) (hts _ (List.mem_cons_of_mem _ hini)) hd hR, hyn, hts _ (List.mem_cons_of_mem _ him)⟩ ⟨gb_blind, fun U hU hW2 => ⟨rfl, by rw [hU], by rw [hU]; exact hPc, va_K.moved hW2.alike hK, hDc.weaken (fun _ _ _ _ => trivial), gb_Z_warm hW2 hZ⟩⟩ rfl hn hl.1 rfl (lv_room hW) d hcs) hS (fun q _ h => hFc q h) hFc (fun u t H1 locs1 ht hvm hw2 hB hz hk hS1 => ?_)
  obtain ⟨hP1, hD1⟩ := hB
  rw [ht] at hP1
  obtain ⟨hP2, hD2⟩ := va_join (wr := ws) (w1 := w1 u) hP hD [ws.length] (List.range ws.length) gb_lastC gb_restC (va_nd_range _) (by simp; omega) hk hFc hP1 hD1
  exact k u H1 locs1 ls hP2 hD2 hS1 hl
end GBC
