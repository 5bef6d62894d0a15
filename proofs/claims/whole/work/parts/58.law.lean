/-! THE CLAIM OUT OF ONE WALK OF THE LAW'S BODY. Your part is whole_start (and what it stands on); all else here is the same for every law, but numbers. -/
def R_law : String := "ForestPackerLaw"
def lw_P (b : Addr) (xs : List Int32) (args : Array Value) (s : State) : Prop := args = #[.ref b] ∧ s.IntsAt b xs ∧ xs.length ≤ 2048 ∧ (Jvm.Cond.and given_1 narrow_1).before args s = true
def lw_Q (_ : Array Value) (s : State) (o : Outcome) (t : State) : Prop := o = .returned (some (.int 1)) ∧ Framed s o t [] 600000 7302250
def lw_Z (below : List Frame) (a : Array Value) (s : State) : State → Prop := fun t => ∃ o, t.status = .running ∧ Ended t below o ∧ lw_Q a s o t
/-- the law's own end, with 1 on the stack, nothing written that was there before, its room as the claim has it -/
theorem lw_ret {p : Program} {l : Launch} {e : Env} {s : State} {m : MethodId} {below : List Frame} {meth : Method} {c : Code} {b : Nat} (hx : p.tables.exec = Jvm.exec) (hb : c.code = code) (hr : meth.sig.returnType = ret) (hlocks : meth.locks = false) {pc : Nat} {H : Heap} {ls : Array Slot} (hdg : decode code pc = .ok (.ireturn, 1)) : W p l e room_1 s m #[Value.ref b] below meth c H [] 600000 7302250 (lw_Z below #[Value.ref b] s) (F0 m pc ls [.int 1]) := by
  intro T hT X
  obtain ⟨fs, hret, hrun, hended, hW, hframe⟩ := X.leave (v := some (.int 1)) (hlocks := hlocks) (fun h => by rw [hr] at h; cases h)
  have hmeth' : T.vm.method? m = some meth := X.method'
  refine ⟨T.setFrames fs, ?_, .returned (some (.int 1)), hrun, hended, rfl, ⟨_, rfl⟩, hW, hframe⟩
  jvm_step X.here [X.here.top, hx, hb, hdg, hmeth', hr, ret, narrow_b1]
  (try refine ⟨rfl, ?_⟩); (try refine ⟨rfl, ?_⟩)
  first | (intro acts; rw [hret _ acts rfl rfl rfl]) | rw [hret _ _ rfl rfl rfl]
  exact Steps.refl _
/-- what holds at the law's entry: the machine, the code, the tables' words (any of lw_tbl by 'hts w (by decide +kernel)'), the script of L ints xs at the cell b, what the Statement gives of the start (any of its parts by flat_of_before) -/
def lw_At (p : Program) (s : State) (m : MethodId) (meth : Method) (c : Code) (b L : Nat) (xs : Nat → Int32) : Prop :=
  p.tables.exec = Jvm.exec ∧ c.code = code ∧ meth.sig.returnType = ret ∧ c.maxLocals = 4 ∧ s.vm.findClass R_law = some m.cls ∧ (∀ w ∈ lw_tbl, w.before #[Value.ref b] s = true) ∧ va_X b L xs s s.heap ∧ b < s.heap.size ∧ meth.locks = false ∧ (Jvm.Cond.and given_1 narrow_1).before #[Value.ref b] s = true
/-! the script: read alone -/
def gm_scr (X : gm_X) (b L : Nat) (xs : Nat → Int32) : Prop := match X with
  | (_, _, _, _, s, _, _, _, _, _, _, _, _, A) => va_X b L xs s s.heap ∧ b < s.heap.size ∧ ¬ A b
section GSC
variable {X : gm_X} {E : gm_E} {cc : ByteArray} {nL pc b L : Nat} {xs : Nat → Int32} {own : String} {Ts : List Cond} {rm : Room} {lo : List (Option Value)} {st : List Value} {σ : gm_S}
theorem gi_sld (hC : gm_ok X E cc nL own Ts rm) (hB : gm_scr X b L xs) {i : Int32} {j : Nat} (hi : i = nI j) (hj : j < L) (hL : L < 2 ^ 31) (d : decode cc pc = .ok (.iaload, 1)) (k : gm_G X E nL (pc + 1) lo (.int (xs j) :: st) σ) : gm_G X E nL pc lo (.int i :: .ref b :: st) σ := by
  obtain ⟨p, l, e, R, s, m, args, below, meth, c, cells, slots, Q, A⟩ := X
  intro H locs ls hP hD hS hl
  subst hi
  refine va_sld hC.1 hC.2.1 hB.1 hB.2.1 hB.2.2 hS (vp_in_nI hj hL) d ?_
  rw [nI_clamp (by omega)]
  exact k H locs ls hP hD hS hl
theorem gi_slen (hC : gm_ok X E cc nL own Ts rm) (hB : gm_scr X b L xs) (d : decode cc pc = .ok (.arraylength, 1)) (k : gm_G X E nL (pc + 1) lo (.int (nI L) :: st) σ) : gm_G X E nL pc lo (.ref b :: st) σ := by
  obtain ⟨p, l, e, R, s, m, args, below, meth, c, cells, slots, Q, A⟩ := X
  intro H locs ls hP hD hS hl
  exact va_slen hC.1 hC.2.1 hB.1 hB.2.1 hB.2.2 hS d (k H locs ls hP hD hS hl)
end GSC
theorem law_sub : ∀ L, L < 2049 → (nI L - 4).toInt = (L : Int) - 4 := by decide +kernel
theorem law_15 (x : Int32) : ∃ j, j < 16 ∧ x &&& 15 = nI j := by
  refine ⟨tN x % 16, Nat.mod_lt _ (by decide), ?_⟩
  apply Int32.toBitVec_inj.mp
  apply BitVec.eq_of_toNat_eq
  have h1 : tN (x &&& 15) = tN x % 16 := by
    rw [tN_and, show tN 15 = 15 from by decide +kernel]
    exact Nat.and_two_pow_sub_one_eq_mod (tN x) 4
  have h2 : ∀ m, m < 16 → tN (nI m) = m := by decide +kernel
  show tN (x &&& 15) = tN (nI (tN x % 16))
  rw [h1, h2 _ (Nat.mod_lt _ (by decide))]
theorem hFR_k {σ σ2 : gm_S} {n : Nat} {ps : Nat → Bool} {U V : Nat → Nat} (h : hFR σ σ2) (g : kInv σ n ps U V) : kInv σ2 n ps U V := kInv_m (hFR_m h) g
