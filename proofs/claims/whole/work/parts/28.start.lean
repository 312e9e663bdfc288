/-! THE CLAIM OUT OF ONE WALK OF THE LAW'S BODY. Your part is whole_start (and what it stands on); all else here is the same for every law, but numbers. -/
def R_law : String := "BottledViewsLaw"
def lw_P (b : Addr) (xs : List Int32) (args : Array Value) (s : State) : Prop := args = #[.ref b] ∧ s.IntsAt b xs ∧ xs.length ≤ 3072 ∧ (Jvm.Cond.and given_1 narrow_1).before args s = true
def lw_Q (_ : Array Value) (s : State) (o : Outcome) (t : State) : Prop := o = .returned (some (.int 1)) ∧ Framed s o t [] 600000 7302250
def lw_Z (below : List Frame) (a : Array Value) (s : State) : State → Prop := fun t => ∃ o, t.status = .running ∧ Ended t below o ∧ lw_Q a s o t
/-- the law's own end, with 1 on the stack, nothing written that was there before, its room as the claim has it -/
theorem lw_ret {p : Program} {l : Launch} {e : Env} {s : State} {m : MethodId} {below : List Frame} {meth : Method} {c : Code} {b : Nat} (hx : p.tables.exec = Jvm.exec) (hb : c.code = code) (hr : meth.sig.returnType = ret) (hlocks : meth.locks = false) {pc : Nat} {H : Heap} {ls : Array Slot} (hdg : decode code pc = .ok (.ireturn, 1)) : W p l e room_1 s m #[Value.ref b] below meth c H [] 600000 7302250 (lw_Z below #[Value.ref b] s) (F0 m pc ls [.int 1]) := by
  intro T hT X
  obtain ⟨fs, hret, hrun, hended, hW, hframe⟩ := X.leave (v := some (.int 1)) (hlocks := hlocks) (fun h => by rw [hr] at h; cases h)
  have hmeth' : T.vm.method? m = some meth := X.method'
  refine ⟨T.setFrames fs, ?_, .returned (some (.int 1)), hrun, hended, rfl, ⟨_, rfl⟩, hW, hframe⟩
  jvm_step X.here [X.here.top, hx, hb, hdg, hmeth', hr, ret, narrow_b1]
  (try refine ⟨rfl, ?_⟩); (try refine ⟨rfl, ?_⟩)
  first | (intro acts; rw [hret _ acts rfl rfl rfl]) | rw [hret _ _ rfl rfl rfl]
  exact Steps.refl _
/-- what holds at the law's entry: the machine, the code, the tables' words (any of lw_tbl by 'hts w (by decide +kernel)'), the script of L ints xs at the cell b, what the Statement gives of the start (any of its parts by flat_of_before) -/
def lw_At (p : Program) (s : State) (m : MethodId) (meth : Method) (c : Code) (b L : Nat) (xs : Nat → Int32) : Prop :=
  p.tables.exec = Jvm.exec ∧ c.code = code ∧ meth.sig.returnType = ret ∧ c.maxLocals = 4 ∧ s.vm.findClass R_law = some m.cls ∧ (∀ w ∈ lw_tbl, w.before #[Value.ref b] s = true) ∧ va_X b L xs s s.heap ∧ b < s.heap.size ∧ meth.locks = false ∧ (Jvm.Cond.and given_1 narrow_1).before #[Value.ref b] s = true
theorem bv_inst : ∀ ci, ci < 9 → Cond.instantiable (bv_R ci) (bv_nf ci) ∈ lw_tbl := by
  intro ci h
  match ci, h with
  | 0, _ => exact (by decide +kernel : Cond.instantiable RX0 6 ∈ lw_tbl)
  | 1, _ => exact (by decide +kernel : Cond.instantiable RX1 2 ∈ lw_tbl)
  | 2, _ => exact (by decide +kernel : Cond.instantiable RX2 6 ∈ lw_tbl)
  | 3, _ => exact (by decide +kernel : Cond.instantiable RX3 3 ∈ lw_tbl)
  | 4, _ => exact (by decide +kernel : Cond.instantiable RX4 2 ∈ lw_tbl)
  | 5, _ => exact (by decide +kernel : Cond.instantiable RX5 12 ∈ lw_tbl)
  | 6, _ => exact (by decide +kernel : Cond.instantiable RX6 5 ∈ lw_tbl)
  | 7, _ => exact (by decide +kernel : Cond.instantiable RX7 9 ∈ lw_tbl)
  | 8, _ => exact (by decide +kernel : Cond.instantiable RX8 19 ∈ lw_tbl)
def bv_tm (j : Nat) : Term := .static RX7 (bv_sn j) (bv_sd j)
theorem bv_static {args : Array Value} {s : State} {A : Nat → Prop} (hA : ∀ a : Nat, a < s.heap.size → ¬ A a) (hts : ∀ w ∈ lw_tbl, w.before args s = true) (hgv : (Jvm.Cond.and given_1 narrow_1).before args s = true) (j N : Nat) (ty : FieldType) (f : Nat → Int32) (hN : N < 2 ^ 31) (h1 : Cond.arrayOf (bv_tm j) ty ∈ flatC (Jvm.Cond.and given_1 narrow_1)) (h2 : Cond.eq (.length (bv_tm j)) (.int (Int32.ofNat N)) ∈ flatC (Jvm.Cond.and given_1 narrow_1)) (h3 : ∀ i, i < N → Cond.eq (.elem (bv_tm j) (.int (Int32.ofNat i))) (.int (f i)) ∈ flatC (Jvm.Cond.and given_1 narrow_1)) (h4 : Cond.laysStatic RX7 (bv_sn j) (bv_sd j) ∈ lw_tbl) (h5 : Cond.initialized RX7 ∈ lw_tbl) :
    ∃ t : Nat, va_T ty t N (fun i => .int (f i)) A s s.heap ∧ va_Z RX7 (bv_sn j) (bv_sd j) (.ref t) A s s.heap := by
  have hs := flat_of_before _ hgv
  obtain ⟨t, ht, hT⟩ := va_Tof (tm := bv_tm j) (ty := ty) (f := fun i => .int (f i)) hN (hs _ h1) (va_eqt (hs _ h2)) (fun i hi => va_eqt (hs _ (h3 i hi))) hA
  exact ⟨t, hT, va_Zof (hts _ h4) (hts _ h5) ht hA⟩
set_option maxRecDepth 100000 in
set_option maxHeartbeats 4000000 in
theorem whole_of (hEv : ∀ (L : Nat) (xs : Nat → Int32), L ≤ 3072 → bv_Ev ML_law (bv_XL L xs) 2000 0 74 bv_QL 0 [some (.ref (1000 + 3)), none, none, none] [] 0 cr_0 cm_0) {p : Program} {e : Env} {s : State} {m : MethodId} {below : List Frame} {meth : Method} {c : Code} (l : Launch) {b L : Nat} {xs : Nat → Int32} (hL : L ≤ 3072) (C0 : lw_At p s m meth c b L xs) : W p l e room_1 s m #[Value.ref b] below meth c s.heap [] 0 0 (lw_Z below #[Value.ref b] s) (entryFrame m ([Value.ref b] : List Value).toArray 4) := by
  obtain ⟨hx, hb, hr, hml, hown, hts, hX, hbl, hlocks, hgv⟩ := C0
  have hcls : ∀ ci : Nat, ∃ q : ClassId × (Nat → Nat), ci < 9 → u_Kn s (bv_R ci) (bv_T ci) (bv_nf ci) q.1 q.2 := by
    intro ci
    by_cases h : ci < 9
    · obtain ⟨cC, iS, h2⟩ := u_known (C := bv_R ci) (T := bv_T ci) (N := bv_nf ci) (n := bv_nf ci) hts (bv_uws ci h) (hts _ (bv_inst ci h))
      exact ⟨(cC, iS), fun _ => h2⟩
    · exact ⟨(m.cls, fun _ => 0), fun h2 => absurd h2 h⟩
  obtain ⟨dd, hdd⟩ := Classical.axiomOfChoice hcls
  have hK : va_K (fun k => (dd k).1, fun k => (dd k).2) vwCl [] s := by
    refine ⟨fun k q hq => ?_, fun k q h => by simp at h⟩
    have hk : k < 9 := by
      have := (List.getElem?_eq_some_iff.mp hq).1
      exact this
    rw [bv_cl_at k hk] at hq
    cases hq
    exact hdd k hk
  have hA0 : ∀ a : Nat, a < s.heap.size → ¬ (fun q : Nat => s.heap.size ≤ q) a := fun a h => Nat.not_le.mpr h
  obtain ⟨t0, hT0, hZ0⟩ := bv_static hA0 hts hgv 0 6 .char bv_x0 (by decide) (by decide +kernel) (by decide +kernel) (by decide +kernel) (by decide +kernel) (by decide +kernel)
  obtain ⟨t1, hT1, hZ1⟩ := bv_static hA0 hts hgv 1 7 .int bv_x1 (by decide) (by decide +kernel) (by decide +kernel) (by decide +kernel) (by decide +kernel) (by decide +kernel)
  obtain ⟨t2, hT2, hZ2⟩ := bv_static hA0 hts hgv 2 28 .int bv_x2 (by decide) (by decide +kernel) (by decide +kernel) (by decide +kernel) (by decide +kernel) (by decide +kernel)
  have hTs : va_T .int b L (fun i => .int (xs i)) (fun q : Nat => s.heap.size ≤ q) s s.heap := by
    obtain ⟨scr, g1, g2, g3, g4, g5⟩ := hX
    exact ⟨scr, g1, g2, g3, Nat.le_of_eq g4.symm, by rw [g4], g5, hA0 b hbl⟩
  obtain ⟨ad, had⟩ : ∃ ad : Nat → Nat, ad = fun k => if k = 1003 then b else if k = 1000 then t0 else if k = 1001 then t1 else t2 := ⟨_, rfl⟩
  have e3 : ad (1000 + 3) = b := by rw [had]; rfl
  have e0 : ad (1000 + 0) = t0 := by rw [had]; rfl
  have e1 : ad (1000 + 1) = t1 := by rw [had]; rfl
  have e2 : ad (1000 + 2) = t2 := by rw [had]; rfl
  have hAA : ∀ q, bv_A ad 0 s.heap.size q → s.heap.size ≤ q := by
    rintro q (⟨k, hk, -⟩ | h)
    · exact absurd hk (Nat.not_lt_zero k)
    · exact h
  have hXX : bv_X (bv_XL L xs) (bv_A ad 0 s.heap.size) ad s s.heap := by
    refine bv_X.narrow (A := fun q => s.heap.size ≤ q) ⟨fun j ty N f hj => ?_, fun j hj => ?_⟩ hAA
    · match j, hj with
      | 0, hj => cases hj; rw [e0]; exact hT0
      | 1, hj => cases hj; rw [e1]; exact hT1
      | 2, hj => cases hj; rw [e2]; exact hT2
      | 3, hj => cases hj; rw [e3]; exact hTs
      | j + 4, hj => cases hj
    · match j, hj with
      | 0, _ => rw [e0]; exact hZ0
      | 1, _ => rw [e1]; exact hZ1
      | 2, _ => rw [e2]; exact hZ2
      | j + 3, hj => exact absurd hj (by omega)
  have hnw : bv_nw s := by
    refine ⟨fun w hw hn => va_Nw.of ?_ (hts w hw), fun C hC => va_AO.of (hts _ hC)⟩
    cases w <;> simp [bv_nest] at hn <;> rfl
  have hl := lv_entry ([.ref b]) (n := 4) (Nat.le_of_ble_eq_true rfl)
  rw [lg_entry_eq]
  generalize (lg_sl ([.ref b]) ++ List.replicate (4 - (lg_sl ([.ref b])).length) Slot.unset).toArray = ls at hl ⊢
  have hl2 : bv_L ad ls 4 [some (.ref (1000 + 3)), none, none, none] := by
    refine ⟨hl.1, hl.2.1, fun q hq => hl.2.2 q ?_⟩
    obtain ⟨i, w⟩ := q
    obtain ⟨v, hv, rfl⟩ := bv_lv_mem.mp hq
    match i, hv with
    | 0, hv =>
      cases hv
      simp only [bv_cv]
      rw [e3]
      exact List.mem_cons_self
    | 1, hv => simp at hv
    | 2, hv => simp at hv
    | 3, hv => simp at hv
    | i + 4, hv => simp at hv
  have k := hEv L xs hL l p e room_1 s m #[Value.ref b] below meth c s.heap [] ad ad (fun _ => m.cls) (fun _ => m.cls) (fun k => (dd k).1, fun k => (dd k).2)
    ⟨hx, hb, hml, hown, fun w hw _ => hts w hw, hr, hlocks, fun q => absurd q Bool.false_ne_true, hK, hXX, hnw⟩ ⟨by decide, by decide, by decide, by decide⟩ ⟨fun _ => ⟨rfl, rfl⟩, fun _ _ => ⟨rfl, rfl⟩⟩
    ⟨fun k q h => by simp [bv_ws] at h, ⟨fun i j p q h => by simp [bv_ws] at h, fun k q h => by simp [bv_ws] at h⟩, va_S.rf, fun k hk => absurd hk (Nat.not_lt_zero k), fun k j q h => by cases h⟩ ls hl2
  intro T hT X
  obtain ⟨t, st, o, r1, r2, ⟨r, mr', mi', ad', ca', hq, -, ho, -⟩, Lf, hF, hLf⟩ := k T hT X
  refine ⟨t, st, o, r1, r2, ?_, hF.1, hF.2.1, hF.2.2.weaken (fun y hy hlt => ?_) (by decide) (by decide)⟩
  · have hq2 : r = some (.int 1) := hq
    rw [ho, hq2]
    rfl
  · exact absurd hlt (Nat.not_lt.mpr (hAA _ (hLf y hy)))
