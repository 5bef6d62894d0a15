/-! THE LAW, from its entry to its end -/
theorem gb_gm {p : Program} {l : Launch} {e : Env} {R : Room} {s : State} {m : MethodId} {args : Array Value} {below : List Frame} {meth : Method} {c : Code} {ce sl : Nat} {Q : State → Prop} {A : Nat → Prop} {E : gm_E} {σ : gm_S} {ws : va_W} {nL pc : Nat} {lo : List (Option Value)} {st : List Value} (hP2 : ∀ H, va_P E.1 vwCl ws H → va_P E.1 vwCl (gm_w E σ) H) (hD2 : va_D A ws → va_D A (gm_w E σ)) (k : (∀ x ∈ gm_names, A (E.2.2 x)) → gm_G (p, l, e, R, s, m, args, below, meth, c, ce, sl, Q, A) E nL pc lo st σ) : gb_G (p, l, e, R, s, m, args, below, meth, c, ce, sl, Q, A) E.1 nL pc lo st ce sl ws := by
  intro H locs ls hP hD hS hl
  have hD3 := hD2 hD
  refine k (fun x hx => ?_) H locs ls (hP2 H hP) hD3 hS hl
  obtain ⟨q, hq⟩ := gm_at (E := E) σ hx
  exact hD3.2 q _ hq
theorem lw_i {w : Cond} (i : Nat) (h : lw_tbl[i]? = some w) : w ∈ lw_tbl := List.mem_of_getElem? h
set_option maxHeartbeats 4000000 in
set_option maxRecDepth 100000 in
theorem lw_known {args : Array Value} {s : State} (hts : ∀ w ∈ lw_tbl, w.before args s = true) : ∃ (D : va_G) (K4 : ClassId × ClassId × ClassId × ClassId), va_K D vwCl (gb_t K4) s ∧ gb_Z s := by
  have sub : ∀ {l : List Cond}, (∀ w ∈ l, w ∈ gw_T) → ∀ w ∈ l, w ∈ lw_tbl := fun h w hw => gw_in (h w hw)
  obtain ⟨c0, i0, k0⟩ := u_known (C := RX0) (T := TX0) (N := 4) (n := 4) hts (sub fW_G) (hts _ (gw_in gw_40))
  obtain ⟨c1, i1, k1⟩ := u_known (C := RX1) (T := TX1) (N := 12) (n := 12) hts (sub fW_P) (hts _ (gw_in gw_67))
  obtain ⟨c2, i2, k2⟩ := u_known (C := RX2) (T := TX2) (N := 2) (n := 2) hts (sub fW_F) (hts _ (gw_in gw_77))
  obtain ⟨c3, i3, k3⟩ := u_known (C := RX3) (T := TX3) (N := 2) (n := 2) hts (sub fW_K) (hts _ (gw_in gw_32))
  obtain ⟨c4, i4, k4⟩ := u_known (C := RX4) (T := TX4) (N := 11) (n := 11) hts (sub fW_M) (hts _ (gw_in gw_311))
  obtain ⟨cI, kI1, pI, f1, f2, f3⟩ := Cond.arrayClass_spec (hts _ (gw_in gw_64))
  obtain ⟨cZ, kZ1, pZ, z1, z2, z3⟩ := Cond.arrayClass_spec (hts _ (gw_in gw_350))
  have hP0 : (Cond.arrayOver (.object "ForestPacker$Packing")).before args s = true := hts _ (lw_i 66 (by decide +kernel))
  have hF0 : (Cond.arrayOver (.object "ForestPacker$RootedForest")).before args s = true := hts _ (lw_i 76 (by decide +kernel))
  obtain ⟨pP, cP, kP1, p1, p2, p3, p4, p5⟩ := Cond.arrayOver_spec hP0
  obtain ⟨pF, cF, kF1, r1, r2, r3, r4, r5⟩ := Cond.arrayOver_spec hF0
  refine ⟨(fun k => if k = 0 then c0 else if k = 1 then c1 else if k = 2 then c2 else if k = 3 then c3 else c4, fun k => if k = 0 then i0 else if k = 1 then i1 else if k = 2 then i2 else if k = 3 then i3 else i4), (cI, cZ, cP, cF), ⟨?_, ?_⟩, va_Nw.of rfl (hts _ (lw_i 41 (by decide +kernel))), va_Nw.of rfl (hts _ (lw_i 78 (by decide +kernel))), va_AO.of hP0, va_AO.of hF0⟩
  · intro k q hq
    match k, hq with
    | 0, hq => cases hq; exact k0
    | 1, hq => cases hq; exact k1
    | 2, hq => cases hq; exact k2
    | 3, hq => cases hq; exact k3
    | 4, hq => cases hq; exact k4
    | k + 5, hq => simp [vwCl] at hq
  · intro k q hq
    match k, hq with
    | 0, hq => cases hq; exact ⟨fun n z => ⟨fun k h => (by cases h), kI1, f2, pI, f3⟩, f1⟩
    | 1, hq => cases hq; exact ⟨fun n z => ⟨fun k h => (by cases h), kZ1, z2, pZ, z3⟩, z1⟩
    | 2, hq => cases hq; exact ⟨fun n z => ⟨fun k h => (by cases h), kP1, p3, pP, p4⟩, kP1, pP, p3, p4, p1, p5⟩
    | 3, hq => cases hq; exact ⟨fun n z => ⟨fun k h => (by cases h), kF1, r3, pF, r4⟩, kF1, pF, r3, r4, r1, r5⟩
    | k + 4, hq => simp [gb_t] at hq
set_option maxHeartbeats 4000000 in
set_option maxRecDepth 100000 in
theorem whole_start {p : Program} {e : Env} {s : State} {m : MethodId} {below : List Frame} {meth : Method} {c : Code} (l : Launch) {b L : Nat} {xs : Nat → Int32} (hL : L ≤ 2048) (C0 : lw_At p s m meth c b L xs) : W p l e room_1 s m #[Value.ref b] below meth c s.heap [] 0 0 (lw_Z below #[Value.ref b] s) (entryFrame m ([Value.ref b] : List Value).toArray 4) := by
  obtain ⟨hx, hb, hr, hml, hown, hts, hX, hbl, hlocks, hgv⟩ := id C0
  obtain ⟨D, K4, hK, hZ⟩ := lw_known hts
  have hgw : ∀ w ∈ Cond.initialized "ForestPackerLaw" :: gw_T, w.before #[Value.ref b] s = true := fun w hw => by
    rcases List.mem_cons.mp hw with q | q
    · rw [q]; exact hts _ (gw_in gw_22)
    · exact hts w (gw_in q)
  obtain ⟨A, hAe⟩ : ∃ A : Nat → Prop, A = fun q => s.heap.size ≤ q := ⟨_, rfl⟩
  have hA : ∀ q, s.heap.size ≤ q → A q := fun q h => by rw [hAe]; exact h
  have hbA : ¬ A b := by rw [hAe]; exact Nat.not_le.mpr hbl
  obtain ⟨X, hXe⟩ : ∃ X : gm_X, X = (p, l, e, room_1, s, m, #[Value.ref b], below, meth, c, 600000, 7302250, lw_Z below #[Value.ref b] s, A) := ⟨_, rfl⟩
  have hC : gb_ok X D (gb_t K4) code 4 RL (Cond.initialized "ForestPackerLaw" :: gw_T) room_1 := by
    rw [hXe]
    exact ⟨hx, hb, hml, hown, hgw, hK, rfl, hA, hlocks, hZ⟩
  have body : gb_G X D 4 0 [some (.ref b), none, none, none] [] 0 0 [] := by
    refine gb_new (ci := 3) (fs := [.null, .null]) hC (C := RX3) (T := TX3) (N := 2) rfl fW_K tyX3 tyX3_ok gw_31 gw_32 gw_23 (by decide +kernel) (by decide +kernel) (by decide +kernel) dL_law_0 (fun q0 => ?_)
    refine gb_dup hC dL_law_3 rfl ?_
    refine gb_callI (n := 0) (As := []) hC (fun l => c_X3_init l D K4 q0) gw_33 gw_34 gw_23 gw_35 rfl rfl (by decide +kernel) ⟨by decide +kernel, by decide +kernel⟩ (Nat.le_of_ble_eq_true rfl) ⟨by decide +kernel, by decide +kernel⟩ dL_law_4 (fun u => ?_)
    refine gb_astn_1 hC dL_law_7 (by decide) ?_
    refine gb_new (ci := 4) (fs := [.int 0, .null, .null, .int 0, .null, .null, .null, .null, .null, .null, .null]) hC (C := RX4) (T := TX4) (N := 11) rfl fW_M tyX4 tyX4_ok gw_310 gw_311 gw_28 (by decide +kernel) (by decide +kernel) (by decide +kernel) dL_law_8 (fun qm => ?_)
    refine gb_dup hC dL_law_11 rfl ?_
    refine gb_callI (n := 0) (As := []) hC (fun l => c_X4_init l D K4 qm) gw_312 gw_313 gw_28 gw_314 rfl rfl (by decide +kernel) ⟨by decide +kernel, by decide +kernel⟩ (Nat.le_of_ble_eq_true rfl) ⟨by decide +kernel, by decide +kernel⟩ dL_law_12 (fun v => ?_)
    refine gb_astn_2 hC dL_law_15 (by decide) ?_
    refine gb_const hC (v := 0) dL_law_16 (by decide) ?_
    refine gb_istn_3 hC dL_law_17 (by decide) ?_
    refine gb_widen (k := 600000) (n := 7302250) (by decide +kernel) (by decide +kernel) ?_
    obtain ⟨⟨g, a, b2, pa⟩, h, uu⟩ := u
    have hw : (gb_wK K4 q0 g a b2 pa h uu ++ gb_wM K4 qm v : va_W) = gb_nms.map (gb_F (gb_E D K4 q0 g a b2 pa h uu qm v)) := w_all
    show gb_G X D 4 18 [some (.ref b), some (.ref q0), some (.ref qm), some (.int (nI 0))] [] 600000 7302250 (gb_wK K4 q0 g a b2 pa h uu ++ gb_wM K4 qm v)
    rw [hw]
    subst hXe
    refine gb_gm (E := gb_E D K4 q0 g a b2 pa h uu qm v) (σ := gb_σ) (fun H hP => nms_P hP) (fun hD => nms_D hD) (fun hnm => ?_)
    have hC2 : gm_ok (p, l, e, room_1, s, m, #[Value.ref b], below, meth, c, 600000, 7302250, lw_Z below #[Value.ref b] s, A) (gb_E D K4 q0 g a b2 pa h uu qm v) code 4 RL (Cond.initialized "ForestPackerLaw" :: gw_T) room_1 := ⟨hx, hb, hml, hown, hgw, hK, rfl, hnm, hA, hlocks, by decide +kernel, by decide +kernel⟩
    exact law_loop (gb_E D K4 q0 g a b2 pa h uu qm v) (xs := xs) hL hC2 ⟨hX, hbl, hbA⟩ (fun σ pc lo d H locs ls hP hD hS hl => va_forget (fun q hq => by have := hS.2.2 q hq; rw [hAe] at this; exact this) (lw_ret hx hb hr hlocks d)) (L + 1) 0 gb_σ 1 (fun _ => false) (fun _ => 0) (fun _ => 0) (Nat.zero_le L) (by omega) gb_kInv gb_mG
  rw [lg_entry_eq]
  subst hXe
  exact body s.heap [] _ (fun k q h => by simp at h) ⟨fun i j p q h => by simp at h, fun k q h => by simp at h⟩ va_S.rf (gm_entry (av := [.ref b]) (gm_c1_ok rfl) (Nat.le_of_ble_eq_true rfl))
set_option maxHeartbeats 4000000 in
theorem lw_walk (l : Launch) (b : Addr) (xs : List Int32) : MetFree l x (headSpec (Jvm.Cond.code x code maxLocals ret :: tables_1) room_1) (lw_P b xs) (fun _ _ _ _ _ => True) lw_Q := by
  refine MetFree.of_bodyS (code := code) (maxLocals := maxLocals) (ret := ret) (by decide) ?_ ?_
  · intro args s m h hn
    obtain ⟨meth, c, h1, h2, h3, h4, h5, h6, -, -⟩ := Cond.code_spec hn (atoms_spec (ws := Jvm.Cond.code x code maxLocals ret :: tables_1) h _ List.mem_cons_self)
    exact ⟨meth, c, h1, h2, h3, h4, h5, h6⟩
  · intro p e s m args below meth c s₁ B hml0 hP _
    obtain ⟨rfl, hx, hbd, hgv⟩ := hP
    obtain ⟨scr, harrAt, hlist, hof, hsmall⟩ := hx
    obtain ⟨hcb, hkn, -, -⟩ := State.arrayAt?_spec harrAt
    have hown : s.vm.findClass R_law = some m.cls := findClass_of_methodNamed B.named
    have hts0 : ∀ c ∈ (Jvm.Cond.code x code maxLocals ret :: tables_1), c.before #[Value.ref b] s = true := atoms_spec (ws := Jvm.Cond.code x code maxLocals ret :: tables_1) B.pre
    have hts : ∀ w ∈ lw_tbl, w.before #[Value.ref b] s = true := k2_hts_sels lw_privs (fun w hw => hts0 w (List.mem_cons_of_mem _ hw)) lw_privs_ok
    have hml : c.maxLocals = 4 := B.maxLocals_eq (hts0 _ List.mem_cons_self)
    have X₀ : Stand p l e room_1 s m #[Value.ref b] below meth c s₁ [] 0 0 := Stand.of_body B
    have hh0 : s₁.heap = s.heap := by rw [B.state]; rfl
    have hsz : scr.slots.size = xs.length := by rw [← Array.length_toList, hlist, List.length_map]
    have hval : ∀ j : Nat, j < xs.length → scr.slots[j]? = some (.int (xs.getD j 0)) := fun j hj => by
      rw [← Array.getElem?_toList, hlist]
      simp [hj]
    have hbl : b < s.heap.size := (Array.getElem?_eq_some_iff.mp hcb).1
    have hX : va_X b xs.length (fun j => xs.getD j 0) s s.heap := ⟨scr, hcb, hof, hkn, hsz, hval⟩
    have K : W p l e room_1 s m #[Value.ref b] below meth c s₁.heap [] 0 0 (lw_Z below #[Value.ref b] s) (entryFrame m ([Value.ref b] : List Value).toArray 4) := by
      rw [hh0]
      exact whole_start l hbd ⟨B.exec, B.bytes, B.returns, hml, hown, hts, hX, hbl, B.notSynchronized, hgv⟩
    obtain ⟨t, a1, o, b1, b2, b3⟩ := K s₁ rfl X₀
    exact ⟨t, o, a1, b1, b2, b3⟩
theorem lw_pre_spec {args : Array Value} {s : State} (h : (Jvm.Cond.and given_1 narrow_1).before args s = true) (hr : rest_1_c.before args s = true) : ∃ (b : Addr) (xs : List Int32), lw_P b xs args s := by
  have hs := flat_of_before _ h
  have hq := flat_of_before _ hr
  have hc : (Cond.count 1).before args s = true := hs _ (by decide +kernel)
  have harr : (Cond.arrayOf (.arg 0) .int).before args s = true := hs _ (by decide +kernel)
  have hle : (Cond.le (.length (.arg 0)) (.int 2048)).before args s = true := hs _ (by decide +kernel)
  have hlen : (Cond.isInt (.length (.arg 0))).before args s = true := hq _ (by decide +kernel)
  have hall : (Cond.all (.arg 0) (.isInt (.elem (.arg 0) (.index 0)))).before args s = true := hq _ (by decide +kernel)
  obtain ⟨b, xs, hb, hx⟩ := State.ints_of_pre rfl harr hlen hall
  have hsm : xs.length < 2 ^ 31 := hx.choose_spec.2.2.2
  have hev : (Term.length (.arg 0)).eval args s none [] s = some (.int xs.length.toInt32) := hx.length_eval hb
  have hv := Cond.le_ints hev (show (Term.int 2048).eval args s none [] s = some (.int 2048) from rfl)
  have hd : xs.length.toInt32 ≤ 2048 := by
    simpa [Cond.before, Cond.holds, hv] using hle
  have hN : xs.length ≤ 2048 := (Int32.ofNat_le_ofNat hsm (by decide)).mp (show Int32.ofNat xs.length ≤ Int32.ofNat 2048 from hd)
  exact ⟨b, xs, Cond.one_arg hc (show args[0]? = some (.ref b) from hb), hx, hN, h⟩
theorem lw_comes (l : Launch) : Comes l x (Jvm.Cond.code x code maxLocals ret :: tables_1) room_1 (fun tb e args s => Calls_1 tb e args s ∧ rest_1 tb e args s ∧ Pre_1 tb e args s)
    (fun _ _ args s o t => lw_Q args s o t) := by
  intro p e ha hc hk s m args below hf hfit hheap happ hpre
  obtain ⟨b, xs, hP⟩ := lw_pre_spec hpre.2.2 hpre.2.1
  obtain ⟨k, o, h1, h2, h3, hQ⟩ := lw_walk l b xs p e ha hc hk s m args below hf ((Spec.applies_iff_loose hf).mp happ).1 hP trivial
  exact ⟨k, o, h1, h2, h3, hQ⟩
theorem lw_frame {s t : State} {o : Outcome} {args : Array Value} (h : Framed s o t [] 600000 7302250) :
    Framed s o t (fieldLocs frame_1_writes args s ++ arrayLocs frame_1_arrays args s ++ staticLocs frame_1_statics s) 600000 7302250 := h
theorem lw_limb (L : Cond) (hL : ∀ (args : Array Value) (s t : State), L.after args s (.returned (some (.int 1))) t = true) :
    ArmFor flags0 classFile x code maxLocals ret World_1 tables_1 room_1 Calls_1 rest_1 Pre_1
      (fun tb e a s o t => postC L tb e a s o t ∧ Framed s o t (fieldLocs frame_1_writes a s ++ arrayLocs frame_1_arrays a s ++ staticLocs frame_1_statics s) 600000 7302250) := by
  intro l _ _ _ p e ha hc hk s m args below hf hfit hheap happ hpre
  obtain ⟨k, o, h1, h2, h3, rfl, hF⟩ := lw_comes l p e ha hc hk s m args below hf hfit hheap happ hpre
  exact ⟨k, _, h1, h2, h3, hL args s _, lw_frame hF⟩
theorem i_vc : Claimed_1_1 ∧ Claimed_1_2 := ⟨lw_limb limb_1_1 (fun args s t => by simp [limb_1_1, Cond.after, Cond.holds, Cond.value]), lw_limb limb_1_2 (fun args s t => Cond.after_iff.mpr (by
  first | (rw [show limb_1_2 = Cond.eq .result (.int 1) from rfl, Cond.eq_ints (x := 1) (y := 1) rfl rfl]; simp; done) | (simp [limb_1_2, Cond.value, Term.eval]; done)))⟩
