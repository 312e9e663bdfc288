-- ===== what holds in a method =====
def bv_sn (j : Nat) : String := match j with
  | 0 => "NAMES"
  | 1 => "KIND_ABOVE"
  | _ => "BODIES"
def bv_sd (j : Nat) : String := match j with
  | 0 => "[C"
  | _ => "[I"
def bv_A (ad0 : Nat → Nat) (n0 sz : Nat) : Nat → Prop := fun q => (∃ k, k < n0 ∧ q = ad0 k) ∨ sz ≤ q
def bv_X (X : bv_Xt) (A : Nat → Prop) (ad : Nat → Nat) (U : State) (H : Heap) : Prop :=
  (∀ (j : Nat) (ty : FieldType) (N : Nat) (f : Nat → Int32), X j = some (ty, N, f) → va_T ty (ad (1000 + j)) N (fun i => .int (f i)) A U H) ∧ ∀ j, j < 3 → va_Z RX7 (bv_sn j) (bv_sd j) (.ref (ad (1000 + j))) A U H
def bv_TB : List Cond := lw_tbl.filter goodWord
def bv_nest : Cond → Bool
  | .fieldLinkNest _ _ _ _ _ _ => true
  | .methodLinkNest _ _ _ _ => true
  | _ => false
/-- the words that no list of a contract may hold: links to a nest mate's private members, arrays of references -/
def bv_nw (U : State) : Prop := (∀ w ∈ lw_tbl, bv_nest w = true → va_Nw w U) ∧ ∀ C : String, Cond.arrayOver (.object C) ∈ lw_tbl → va_AO C U
theorem bv_nw.warm {s U : State} (hW : s.WarmedH U.vm) (h : bv_nw s) : bv_nw U := by
  refine ⟨fun w hw hn => ?_, fun C hC => (h.2 C hC).moved hW.alike⟩
  have h1 := h.1 w hw hn
  cases w <;> simp [bv_nest] at hn
  all_goals first | exact va_Nw.warmF hW h1 | exact va_Nw.warmM hW h1
theorem bv_nw.same {u U : State} (hv : u.vm = U.vm) (h : bv_nw u) : bv_nw U := by
  refine ⟨fun w hw hn => va_Nw.same ?_ hv (h.1 w hw hn), fun C hC => (h.2 C hC).moved (by rw [hv]; exact Vm.Alike.refl _)⟩
  cases w <;> simp [bv_nest] at hn <;> rfl
def bv_AC (ca : Nat → ClassId) (n : Nat) (U : State) : Prop := ∀ k, k < n → ∀ (ty : FieldType) (N : Nat), bv_sh k = .inl (ty, N) → ArrOfT U (ca k) ty ∧ va_RA U (ca k) ty
def bv_mb (n : Nat) (mr : bv_Rfs) : Prop := ∀ k j q, mr k j = some q → q < n
def bv_ag (n0 n1 : Nat) (ad0 ad : Nat → Nat) (ca0 ca : Nat → ClassId) : Prop := (n0 = n1 → ad = ad0 ∧ ca = ca0) ∧ ∀ k, (k < n0 ∨ 1000 ≤ k) → ad k = ad0 k ∧ ca k = ca0 k
def bv_rm (d n0 n1 : Nat) : Room := { frames := d, cells := n1 - n0, slots := bv_sz n1 - bv_sz n0, locals := 40 * d }
def bv_RR (d n0 n1 : Nat) (R : Room) : Prop := d ≤ R.frames ∧ n1 - n0 ≤ R.cells ∧ bv_sz n1 - bv_sz n0 ≤ R.slots ∧ 40 * d ≤ R.locals
def bv_Q (Q : Option Value → bv_Rfs → bv_Mem → Prop) (D : va_G) (ad0 : Nat → Nat) (ca0 : Nat → ClassId) (n0 n1 sz : Nat) : Array Value → State → Outcome → State → Prop := fun _ st oc t =>
  ∃ (r : Option Value) (mr : bv_Rfs) (mi : bv_Mem) (ad : Nat → Nat) (ca : Nat → ClassId), Q r mr mi ∧ bv_ag n0 n1 ad0 ad ca0 ca ∧ oc = .returned (r.map (bv_cv ad)) ∧ va_P D vwCl (bv_ws ad ca n1 mr mi) t.heap ∧ va_D (bv_A ad0 n0 sz) (bv_ws ad ca n1 mr mi) ∧ bv_AC ca n1 t ∧ bv_mb n1 mr ∧ va_F (bv_A ad0 n0 sz) st t
def bv_C (M : bv_M) (X : bv_Xt) (n0 : Nat) (p : Program) (s : State) (m : MethodId) (args : Array Value) (meth : Method) (c : Code) (ad0 : Nat → Nat) (D : va_G) : Prop :=
  p.tables.exec = Jvm.exec ∧ c.code = M.2.1 ∧ c.maxLocals = M.2.2.1 ∧ s.vm.findClass M.1 = some m.cls ∧ (∀ w ∈ lw_tbl, goodWord w = true → w.before args s = true) ∧ meth.sig.returnType = M.2.2.2.1 ∧ meth.locks = false ∧ (M.2.2.2.2 = true → meth.name = "<init>") ∧ va_K D vwCl [] s ∧ bv_X X (bv_A ad0 n0 s.heap.size) ad0 s s.heap ∧ bv_nw s
def bv_W (D : va_G) (ad : Nat → Nat) (ca : Nat → ClassId) (n : Nat) (mr : bv_Rfs) (mi : bv_Mem) (s : State) (A : Nat → Prop) (H : Heap) (locs : List Loc) : Prop :=
  va_P D vwCl (bv_ws ad ca n mr mi) H ∧ va_D A (bv_ws ad ca n mr mi) ∧ va_S A s.heap H locs ∧ bv_AC ca n s ∧ bv_mb n mr
/-- THE JUDGEMENT: at pc of the method M, with these locals, this stack, n cells with these contents, the machine comes to the method's end, with Q -/
def bv_Ev (M : bv_M) (X : bv_Xt) (d n0 n1 : Nat) (Q : Option Value → bv_Rfs → bv_Mem → Prop) (pc : Nat) (L : List (Option Value)) (st : List Value) (n : Nat) (mr : bv_Rfs) (mi : bv_Mem) : Prop :=
  ∀ (l : Launch) (p : Program) (e : Env) (R : Room) (s : State) (m : MethodId) (args : Array Value) (below : List Frame) (meth : Method) (c : Code) (H : Heap) (locs : List Loc) (ad0 ad : Nat → Nat) (ca0 ca : Nat → ClassId) (D : va_G),
    bv_C M X n0 p s m args meth c ad0 D → bv_RR d n0 n1 R → bv_ag n0 n1 ad0 ad ca0 ca → bv_W D ad ca n mr mi s (bv_A ad0 n0 s.heap.size) H locs → ∀ ls : Array Slot, bv_L ad ls M.2.2.1 L →
    W p l e R s m args below meth c H locs (n - n0) (bv_sz n - bv_sz n0) (MQ below (bv_Q Q D ad0 ca0 n0 n1 s.heap.size) args s (n1 - n0) (bv_sz n1 - bv_sz n0) (bv_A ad0 n0 s.heap.size)) (F0 m pc ls (st.map (bv_cv ad)))
def bv_U (X : bv_Xt) (D : va_G) (ad : Nat → Nat) (ca : Nat → ClassId) (n : Nat) (mr : bv_Rfs) (mi : bv_Mem) (sz : Nat) (U : State) : Prop :=
  U.heap.size = sz ∧ va_K D vwCl [] U ∧ bv_AC ca n U ∧ va_P D vwCl (bv_ws ad ca n mr mi) U.heap ∧ va_D (fun _ => True) (bv_ws ad ca n mr mi) ∧ bv_X X (bv_A ad n sz) ad U U.heap ∧ bv_mb n mr ∧ bv_nw U
/-- A METHOD'S CONTRACT -/
def bv_Met (y : MethodName) (M : bv_M) (X : bv_Xt) (d n0 n1 : Nat) (av : List Value) (mr : bv_Rfs) (mi : bv_Mem) (Q : Option Value → bv_Rfs → bv_Mem → Prop) : Prop :=
  ∀ (l : Launch) (D : va_G) (ad0 : Nat → Nat) (ca0 : Nat → ClassId) (sz : Nat), Met l y (.code y M.2.1 M.2.2.1 M.2.2.2.1 :: bv_TB) (bv_rm d n0 n1) (va_Pc (av.map (bv_cv ad0)) (bv_U X D ad0 ca0 n0 mr mi sz)) (bv_Q Q D ad0 ca0 n0 n1 sz) (n1 - n0) (bv_sz n1 - bv_sz n0) (bv_A ad0 n0 sz)
theorem bv_AC.moved {ca : Nat → ClassId} {n : Nat} {u U : State} (hvm : u.vm.Alike U.vm) (h : bv_AC ca n u) : bv_AC ca n U := fun k hk ty N hs => ⟨arrOfT_moved hvm (h k hk ty N hs).1, (h k hk ty N hs).2.moved hvm⟩
theorem bv_X.moved {X : bv_Xt} {A : Nat → Prop} {ad : Nat → Nat} {u U : State} {H : Heap} (hvm : u.vm.Alike U.vm) (h : bv_X X A ad u H) : bv_X X A ad U H := ⟨fun j ty N f hx => (h.1 j ty N f hx).moved hvm, fun j hj => (h.2 j hj).moved hvm⟩
theorem bv_X.kept {X : bv_Xt} {A : Nat → Prop} {ad : Nat → Nat} {U : State} {H H1 : Heap} (h : bv_X X A ad U H) (hq : ∀ a : Nat, a < H.size → ¬ A a → H1[a]? = H[a]?) : bv_X X A ad U H1 := ⟨fun j ty N f hx => (h.1 j ty N f hx).kept hq, fun j hj => (h.2 j hj).kept hq⟩
theorem bv_X.narrow {X : bv_Xt} {A B : Nat → Prop} {ad : Nat → Nat} {U : State} {H : Heap} (h : bv_X X A ad U H) (hAB : ∀ q, B q → A q) : bv_X X B ad U H := ⟨fun j ty N f hx => (h.1 j ty N f hx).narrow hAB, fun j hj => (h.2 j hj).narrow hAB⟩
theorem bv_X.ad {X : bv_Xt} {A : Nat → Prop} {ad ad2 : Nat → Nat} {U : State} {H : Heap} (h : bv_X X A ad U H) (he : ∀ k, 1000 ≤ k → ad2 k = ad k) : bv_X X A ad2 U H := ⟨fun j ty N f hx => by rw [he _ (by omega)]; exact h.1 j ty N f hx, fun j hj => by rw [he _ (by omega)]; exact h.2 j hj⟩
theorem bv_X.sub {X X2 : bv_Xt} {A : Nat → Prop} {ad : Nat → Nat} {U : State} {H : Heap} (h : bv_X X A ad U H) (he : ∀ j v, X2 j = some v → X j = some v) : bv_X X2 A ad U H := ⟨fun j ty N f hx => h.1 j ty N f (he _ _ hx), h.2⟩
theorem bv_A_self {D : va_G} {ad : Nat → Nat} {ca : Nat → ClassId} {n sz : Nat} {mr : bv_Rfs} {mi : bv_Mem} {A : Nat → Prop} (h : va_D A (bv_ws ad ca n mr mi)) : va_D (bv_A ad n sz) (bv_ws ad ca n mr mi) := by
  refine ⟨h.1, fun k q hk => ?_⟩
  have hlt : k < n := by
    have := (List.getElem?_eq_some_iff.mp hk).1
    rwa [bv_ws_len] at this
  rw [bv_ws_at _ _ _ _ hlt] at hk
  cases hk
  exact Or.inl ⟨k, hlt, rfl⟩
theorem bv_lg_len (ad : Nat → Nat) (av : List Value) : (lg_sl (av.map (bv_cv ad))).length = (lg_sl av).length := by
  induction av with
  | nil => rfl
  | cons v t ih =>
    have e1 : lg_sl ((v :: t).map (bv_cv ad)) = (if (bv_cv ad v).category = 2 then [.val (bv_cv ad v), .second] else [.val (bv_cv ad v)]) ++ lg_sl (t.map (bv_cv ad)) := rfl
    have e2 : lg_sl (v :: t) = (if v.category = 2 then [.val v, .second] else [.val v]) ++ lg_sl t := rfl
    rw [e1, e2, List.length_append, List.length_append, ih, bv_cv_cat]
    split <;> rfl
/-- a contract out of the judgement at the entry -/
theorem bv_Met.of {y : MethodName} {M : bv_M} {X : bv_Xt} {d n0 n1 : Nat} {av : List Value} {mr : bv_Rfs} {mi : bv_Mem} {Q : Option Value → bv_Rfs → bv_Mem → Prop} (hy : plainName y.cls = true) (hc : y.cls = M.1) (hi : M.2.2.2.2 = true → y.name = "<init>") (hav : (lg_sl av).length ≤ M.2.2.1)
    (h : bv_Ev M X d n0 n1 Q 0 (bv_en av M.2.2.1) [] n0 mr mi) : bv_Met y M X d n0 n1 av mr mi Q := by
  intro l D ad0 ca0 sz
  refine Met.ofW (cc := M.2.1) (maxL := M.2.2.1) (ret := M.2.2.2.1) hy rfl ?_
  intro p e s m args below meth c s₁ B hml hv
  obtain ⟨rfl, hsz, hK, hAC, hP, hD, hX, hmb, hnw⟩ := hv
  subst hsz
  have hts0 := atoms_spec (ws := .code y M.2.1 M.2.2.1 M.2.2.2.1 :: bv_TB) B.pre
  have hts : ∀ w ∈ lw_tbl, goodWord w = true → w.before (av.map (bv_cv ad0)).toArray s = true := fun w hw hg => hts0 w (List.mem_cons_of_mem _ (List.mem_filter.mpr ⟨hw, hg⟩))
  have hown : s.vm.findClass M.1 = some m.cls := by rw [← hc]; exact findClass_of_methodNamed B.named
  have hlen := bv_lg_len ad0 av
  have hl := lv_entry (av.map (bv_cv ad0)) (n := M.2.2.1) (by rw [hlen]; exact hav)
  rw [lg_entry_eq]
  generalize (lg_sl (av.map (bv_cv ad0)) ++ List.replicate (M.2.2.1 - (lg_sl (av.map (bv_cv ad0))).length) Slot.unset).toArray = ls at hl ⊢
  have hl2 : bv_L ad0 ls M.2.2.1 (bv_en av M.2.2.1) := by
    refine ⟨hl.1, hl.2.1, fun q hq => hl.2.2 q ?_⟩
    obtain ⟨i, w⟩ := q
    obtain ⟨v, hv, rfl⟩ := bv_lv_mem.mp hq
    have := bv_en_mem ad0 av M.2.2.1 0 i v hv
    rwa [Nat.zero_add] at this
  have k := h l p e (bv_rm d n0 n1) s m (av.map (bv_cv ad0)).toArray below meth c s.heap [] ad0 ad0 ca0 ca0 D ⟨B.exec, B.bytes, hml, hown, hts, B.returns, B.notSynchronized, fun q => (name_of_methodNamed B.named B.method).1.trans (hi q), hK, hX, hnw⟩ ⟨Nat.le_refl _, Nat.le_refl _, Nat.le_refl _, Nat.le_refl _⟩ ⟨fun _ => ⟨rfl, rfl⟩, fun _ _ => ⟨rfl, rfl⟩⟩ ⟨hP, bv_A_self (D := D) hD, va_S.rf, hAC, hmb⟩ ls hl2
  rw [Nat.sub_self, Nat.sub_self] at k
  exact k
section RULES
variable {M : bv_M} {X : bv_Xt} {d n0 n1 : Nat} {Q : Option Value → bv_Rfs → bv_Mem → Prop} {pc : Nat} {L : List (Option Value)} {st : List Value} {n : Nat} {mr : bv_Rfs} {mi : bv_Mem}
theorem ev_iadd {x y : Int32} (hd : decode M.2.1 pc = .ok (.iadd, 1)) (k : bv_Ev M X d n0 n1 Q (pc + 1) L (.int (x + y) :: st) n mr mi) : bv_Ev M X d n0 n1 Q pc L (.int y :: .int x :: st) n mr mi :=
  fun l p e R s m args below meth c H locs ad0 ad ca0 ca D hC hR hag hW ls hl => lv_iadd hC.1 hC.2.1 hd (k l p e R s m args below meth c H locs ad0 ad ca0 ca D hC hR hag hW ls hl)
theorem ev_isub {x y : Int32} (hd : decode M.2.1 pc = .ok (.isub, 1)) (k : bv_Ev M X d n0 n1 Q (pc + 1) L (.int (x - y) :: st) n mr mi) : bv_Ev M X d n0 n1 Q pc L (.int y :: .int x :: st) n mr mi :=
  fun l p e R s m args below meth c H locs ad0 ad ca0 ca D hC hR hag hW ls hl => lv_isub hC.1 hC.2.1 hd (k l p e R s m args below meth c H locs ad0 ad ca0 ca D hC hR hag hW ls hl)
theorem ev_imul {x y : Int32} (hd : decode M.2.1 pc = .ok (.imul, 1)) (k : bv_Ev M X d n0 n1 Q (pc + 1) L (.int (x * y) :: st) n mr mi) : bv_Ev M X d n0 n1 Q pc L (.int y :: .int x :: st) n mr mi :=
  fun l p e R s m args below meth c H locs ad0 ad ca0 ca D hC hR hag hW ls hl => lv_imul hC.1 hC.2.1 hd (k l p e R s m args below meth c H locs ad0 ad ca0 ca D hC hR hag hW ls hl)
theorem ev_iand {x y : Int32} (hd : decode M.2.1 pc = .ok (.iand, 1)) (k : bv_Ev M X d n0 n1 Q (pc + 1) L (.int (x &&& y) :: st) n mr mi) : bv_Ev M X d n0 n1 Q pc L (.int y :: .int x :: st) n mr mi :=
  fun l p e R s m args below meth c H locs ad0 ad ca0 ca D hC hR hag hW ls hl => lv_iand hC.1 hC.2.1 hd (k l p e R s m args below meth c H locs ad0 ad ca0 ca D hC hR hag hW ls hl)
theorem ev_ior {x y : Int32} (hd : decode M.2.1 pc = .ok (.ior, 1)) (k : bv_Ev M X d n0 n1 Q (pc + 1) L (.int (x ||| y) :: st) n mr mi) : bv_Ev M X d n0 n1 Q pc L (.int y :: .int x :: st) n mr mi :=
  fun l p e R s m args below meth c H locs ad0 ad ca0 ca D hC hR hag hW ls hl => lv_ior hC.1 hC.2.1 hd (k l p e R s m args below meth c H locs ad0 ad ca0 ca D hC hR hag hW ls hl)
theorem ev_ixor {x y : Int32} (hd : decode M.2.1 pc = .ok (.ixor, 1)) (k : bv_Ev M X d n0 n1 Q (pc + 1) L (.int (x ^^^ y) :: st) n mr mi) : bv_Ev M X d n0 n1 Q pc L (.int y :: .int x :: st) n mr mi :=
  fun l p e R s m args below meth c H locs ad0 ad ca0 ca D hC hR hag hW ls hl => lv_ixor hC.1 hC.2.1 hd (k l p e R s m args below meth c H locs ad0 ad ca0 ca D hC hR hag hW ls hl)
theorem ev_ishl {x y : Int32} (hd : decode M.2.1 pc = .ok (.ishl, 1)) (k : bv_Ev M X d n0 n1 Q (pc + 1) L (.int (x <<< (y &&& 31)) :: st) n mr mi) : bv_Ev M X d n0 n1 Q pc L (.int y :: .int x :: st) n mr mi :=
  fun l p e R s m args below meth c H locs ad0 ad ca0 ca D hC hR hag hW ls hl => lv_ishl hC.1 hC.2.1 hd (k l p e R s m args below meth c H locs ad0 ad ca0 ca D hC hR hag hW ls hl)
theorem ev_ishr {x y : Int32} (hd : decode M.2.1 pc = .ok (.ishr, 1)) (k : bv_Ev M X d n0 n1 Q (pc + 1) L (.int (x >>> (y &&& 31)) :: st) n mr mi) : bv_Ev M X d n0 n1 Q pc L (.int y :: .int x :: st) n mr mi :=
  fun l p e R s m args below meth c H locs ad0 ad ca0 ca D hC hR hag hW ls hl => lv_ishr hC.1 hC.2.1 hd (k l p e R s m args below meth c H locs ad0 ad ca0 ca D hC hR hag hW ls hl)
theorem ev_iushr {x y : Int32} (hd : decode M.2.1 pc = .ok (.iushr, 1)) (k : bv_Ev M X d n0 n1 Q (pc + 1) L (.int (x.toUInt32 >>> (y.toUInt32 &&& Int32.toUInt32 31)).toInt32 :: st) n mr mi) : bv_Ev M X d n0 n1 Q pc L (.int y :: .int x :: st) n mr mi :=
  fun l p e R s m args below meth c H locs ad0 ad ca0 ca D hC hR hag hW ls hl => lv_iushr hC.1 hC.2.1 hd rfl (k l p e R s m args below meth c H locs ad0 ad ca0 ca D hC hR hag hW ls hl)
theorem ev_land {x y : Int64} (hd : decode M.2.1 pc = .ok (.land, 1)) (k : bv_Ev M X d n0 n1 Q (pc + 1) L (.long (x &&& y) :: st) n mr mi) : bv_Ev M X d n0 n1 Q pc L (.long y :: .long x :: st) n mr mi :=
  fun l p e R s m args below meth c H locs ad0 ad ca0 ca D hC hR hag hW ls hl => lv_land hC.1 hC.2.1 hd (k l p e R s m args below meth c H locs ad0 ad ca0 ca D hC hR hag hW ls hl)
theorem ev_lor {x y : Int64} (hd : decode M.2.1 pc = .ok (.lor, 1)) (k : bv_Ev M X d n0 n1 Q (pc + 1) L (.long (x ||| y) :: st) n mr mi) : bv_Ev M X d n0 n1 Q pc L (.long y :: .long x :: st) n mr mi :=
  fun l p e R s m args below meth c H locs ad0 ad ca0 ca D hC hR hag hW ls hl => lv_lor hC.1 hC.2.1 hd (k l p e R s m args below meth c H locs ad0 ad ca0 ca D hC hR hag hW ls hl)
theorem ev_ineg {x : Int32} (hd : decode M.2.1 pc = .ok (.ineg, 1)) (k : bv_Ev M X d n0 n1 Q (pc + 1) L (.int (-x) :: st) n mr mi) : bv_Ev M X d n0 n1 Q pc L (.int x :: st) n mr mi :=
  fun l p e R s m args below meth c H locs ad0 ad ca0 ca D hC hR hag hW ls hl => lv_ineg hC.1 hC.2.1 hd (k l p e R s m args below meth c H locs ad0 ad ca0 ca D hC hR hag hW ls hl)
theorem ev_i2l {x : Int32} (hd : decode M.2.1 pc = .ok (.i2l, 1)) (k : bv_Ev M X d n0 n1 Q (pc + 1) L (.long x.toInt64 :: st) n mr mi) : bv_Ev M X d n0 n1 Q pc L (.int x :: st) n mr mi :=
  fun l p e R s m args below meth c H locs ad0 ad ca0 ca D hC hR hag hW ls hl => lv_i2l hC.1 hC.2.1 hd rfl (k l p e R s m args below meth c H locs ad0 ad ca0 ca D hC hR hag hW ls hl)
theorem ev_l2i {x : Int64} (hd : decode M.2.1 pc = .ok (.l2i, 1)) (k : bv_Ev M X d n0 n1 Q (pc + 1) L (.int x.toInt32 :: st) n mr mi) : bv_Ev M X d n0 n1 Q pc L (.long x :: st) n mr mi :=
  fun l p e R s m args below meth c H locs ad0 ad ca0 ca D hC hR hag hW ls hl => lv_l2i hC.1 hC.2.1 hd rfl (k l p e R s m args below meth c H locs ad0 ad ca0 ca D hC hR hag hW ls hl)
theorem ev_i2b {x : Int32} (hd : decode M.2.1 pc = .ok (.i2b, 1)) (k : bv_Ev M X d n0 n1 Q (pc + 1) L (.int x.toInt8.toInt32 :: st) n mr mi) : bv_Ev M X d n0 n1 Q pc L (.int x :: st) n mr mi :=
  fun l p e R s m args below meth c H locs ad0 ad ca0 ca D hC hR hag hW ls hl => lv_i2b hC.1 hC.2.1 hd rfl (k l p e R s m args below meth c H locs ad0 ad ca0 ca D hC hR hag hW ls hl)
theorem ev_i2s {x : Int32} (hd : decode M.2.1 pc = .ok (.i2s, 1)) (k : bv_Ev M X d n0 n1 Q (pc + 1) L (.int x.toInt16.toInt32 :: st) n mr mi) : bv_Ev M X d n0 n1 Q pc L (.int x :: st) n mr mi :=
  fun l p e R s m args below meth c H locs ad0 ad ca0 ca D hC hR hag hW ls hl => lv_i2s hC.1 hC.2.1 hd rfl (k l p e R s m args below meth c H locs ad0 ad ca0 ca D hC hR hag hW ls hl)
theorem ev_lshl {x : Int64} {y : Int32} (hd : decode M.2.1 pc = .ok (.lshl, 1)) (k : bv_Ev M X d n0 n1 Q (pc + 1) L (.long (x <<< (y.toInt64 &&& 63)) :: st) n mr mi) : bv_Ev M X d n0 n1 Q pc L (.int y :: .long x :: st) n mr mi :=
  fun l p e R s m args below meth c H locs ad0 ad ca0 ca D hC hR hag hW ls hl => lv_lshl hC.1 hC.2.1 hd rfl (k l p e R s m args below meth c H locs ad0 ad ca0 ca D hC hR hag hW ls hl)
theorem ev_lshr {x : Int64} {y : Int32} (hd : decode M.2.1 pc = .ok (.lshr, 1)) (k : bv_Ev M X d n0 n1 Q (pc + 1) L (.long (x >>> (y.toInt64 &&& 63)) :: st) n mr mi) : bv_Ev M X d n0 n1 Q pc L (.int y :: .long x :: st) n mr mi :=
  fun l p e R s m args below meth c H locs ad0 ad ca0 ca D hC hR hag hW ls hl => lv_lshr hC.1 hC.2.1 hd rfl (k l p e R s m args below meth c H locs ad0 ad ca0 ca D hC hR hag hW ls hl)
theorem ev_lushr {x : Int64} {y : Int32} (hd : decode M.2.1 pc = .ok (.lushr, 1)) (k : bv_Ev M X d n0 n1 Q (pc + 1) L (.long (x.toUInt64 >>> (y.toInt64.toUInt64 &&& Int64.toUInt64 63)).toInt64 :: st) n mr mi) : bv_Ev M X d n0 n1 Q pc L (.int y :: .long x :: st) n mr mi :=
  fun l p e R s m args below meth c H locs ad0 ad ca0 ca D hC hR hag hW ls hl => lv_lushr hC.1 hC.2.1 hd rfl (k l p e R s m args below meth c H locs ad0 ad ca0 ca D hC hR hag hW ls hl)
theorem ev_iconst {v : Int} (x : Int32) (hd : decode M.2.1 pc = .ok (.iconst v, 1)) (hv : Int32.ofInt v = x) (k : bv_Ev M X d n0 n1 Q (pc + 1) L (.int x :: st) n mr mi) : bv_Ev M X d n0 n1 Q pc L st n mr mi :=
  fun l p e R s m args below meth c H locs ad0 ad ca0 ca D hC hR hag hW ls hl => lv_iconst hC.1 hC.2.1 hd hv (k l p e R s m args below meth c H locs ad0 ad ca0 ca D hC hR hag hW ls hl)
theorem ev_bipush {v : Int} (x : Int32) (hd : decode M.2.1 pc = .ok (.bipush v, 2)) (hv : (Int8.ofInt v).toInt32 = x) (k : bv_Ev M X d n0 n1 Q (pc + 2) L (.int x :: st) n mr mi) : bv_Ev M X d n0 n1 Q pc L st n mr mi :=
  fun l p e R s m args below meth c H locs ad0 ad ca0 ca D hC hR hag hW ls hl => lv_bipush hC.1 hC.2.1 hd hv (k l p e R s m args below meth c H locs ad0 ad ca0 ca D hC hR hag hW ls hl)
theorem ev_sipush {v : Int} (x : Int32) (hd : decode M.2.1 pc = .ok (.sipush v, 3)) (hv : (Int16.ofInt v).toInt32 = x) (k : bv_Ev M X d n0 n1 Q (pc + 3) L (.int x :: st) n mr mi) : bv_Ev M X d n0 n1 Q pc L st n mr mi :=
  fun l p e R s m args below meth c H locs ad0 ad ca0 ca D hC hR hag hW ls hl => lv_sipush hC.1 hC.2.1 hd hv (k l p e R s m args below meth c H locs ad0 ad ca0 ca D hC hR hag hW ls hl)
theorem ev_ldc {i : Nat} (x : Int32) (hd : decode M.2.1 pc = .ok (.ldc i, 2)) (hv : Cond.constant M.1 i x ∈ lw_tbl) (k : bv_Ev M X d n0 n1 Q (pc + 2) L (.int x :: st) n mr mi) : bv_Ev M X d n0 n1 Q pc L st n mr mi :=
  fun l p e R s m args below meth c H locs ad0 ad ca0 ca D hC hR hag hW ls hl => lv_ldc hC.1 hC.2.1 hC.2.2.2.1 (hC.2.2.2.2.1 _ hv rfl) hd (k l p e R s m args below meth c H locs ad0 ad ca0 ca D hC hR hag hW ls hl)
theorem ev_ldcw {i : Nat} (x : Int32) (hd : decode M.2.1 pc = .ok (.ldc_w i, 3)) (hv : Cond.constant M.1 i x ∈ lw_tbl) (k : bv_Ev M X d n0 n1 Q (pc + 3) L (.int x :: st) n mr mi) : bv_Ev M X d n0 n1 Q pc L st n mr mi :=
  fun l p e R s m args below meth c H locs ad0 ad ca0 ca D hC hR hag hW ls hl => lv_ldcw hC.1 hC.2.1 hC.2.2.2.1 (hC.2.2.2.2.1 _ hv rfl) hd (k l p e R s m args below meth c H locs ad0 ad ca0 ca D hC hR hag hW ls hl)
theorem ev_ldc2 {i : Nat} (x : Int64) (hd : decode M.2.1 pc = .ok (.ldc2_w i, 3)) (hv : Cond.constantLong M.1 i x ∈ lw_tbl) (k : bv_Ev M X d n0 n1 Q (pc + 3) L (.long x :: st) n mr mi) : bv_Ev M X d n0 n1 Q pc L st n mr mi :=
  fun l p e R s m args below meth c H locs ad0 ad ca0 ca D hC hR hag hW ls hl => lv_ldc2 hC.1 hC.2.1 hC.2.2.2.1 (hC.2.2.2.2.1 _ hv rfl) hd (k l p e R s m args below meth c H locs ad0 ad ca0 ca D hC hR hag hW ls hl)
theorem ev_iload_n {i : Fin 4} {x : Int32} (hd : decode M.2.1 pc = .ok (.iload_n i, 1)) (hl : L[(i : Nat)]? = some (some (.int x))) (k : bv_Ev M X d n0 n1 Q (pc + 1) L (.int x :: st) n mr mi) : bv_Ev M X d n0 n1 Q pc L st n mr mi :=
  fun l p e R s m args below meth c H locs ad0 ad ca0 ca D hC hR hag hW ls hh => lv_iload_n hC.1 hC.2.1 hd rfl (bv_L_at hh hl) (k l p e R s m args below meth c H locs ad0 ad ca0 ca D hC hR hag hW ls hh)
theorem ev_iload {i : Nat} {x : Int32} (hd : decode M.2.1 pc = .ok (.iload i, 2)) (hl : L[i]? = some (some (.int x))) (k : bv_Ev M X d n0 n1 Q (pc + 2) L (.int x :: st) n mr mi) : bv_Ev M X d n0 n1 Q pc L st n mr mi :=
  fun l p e R s m args below meth c H locs ad0 ad ca0 ca D hC hR hag hW ls hh => lv_iload hC.1 hC.2.1 hd (bv_L_at hh hl) (k l p e R s m args below meth c H locs ad0 ad ca0 ca D hC hR hag hW ls hh)
theorem ev_lload_n {i : Fin 4} {x : Int64} (hd : decode M.2.1 pc = .ok (.lload_n i, 1)) (hl : L[(i : Nat)]? = some (some (.long x))) (k : bv_Ev M X d n0 n1 Q (pc + 1) L (.long x :: st) n mr mi) : bv_Ev M X d n0 n1 Q pc L st n mr mi :=
  fun l p e R s m args below meth c H locs ad0 ad ca0 ca D hC hR hag hW ls hh => lv_lload_n hC.1 hC.2.1 hd rfl (bv_L_at hh hl) (k l p e R s m args below meth c H locs ad0 ad ca0 ca D hC hR hag hW ls hh)
theorem ev_aload_n {i : Fin 4} {x : Nat} (hd : decode M.2.1 pc = .ok (.aload_n i, 1)) (hl : L[(i : Nat)]? = some (some (.ref x))) (k : bv_Ev M X d n0 n1 Q (pc + 1) L (.ref x :: st) n mr mi) : bv_Ev M X d n0 n1 Q pc L st n mr mi :=
  fun l p e R s m args below meth c H locs ad0 ad ca0 ca D hC hR hag hW ls hh => lv_aload_n hC.1 hC.2.1 hd rfl (bv_L_at hh hl) (k l p e R s m args below meth c H locs ad0 ad ca0 ca D hC hR hag hW ls hh)
theorem ev_aload {i : Nat} {x : Nat} (hd : decode M.2.1 pc = .ok (.aload i, 2)) (hl : L[i]? = some (some (.ref x))) (k : bv_Ev M X d n0 n1 Q (pc + 2) L (.ref x :: st) n mr mi) : bv_Ev M X d n0 n1 Q pc L st n mr mi :=
  fun l p e R s m args below meth c H locs ad0 ad ca0 ca D hC hR hag hW ls hh => lv_aload hC.1 hC.2.1 hd (bv_L_at hh hl) (k l p e R s m args below meth c H locs ad0 ad ca0 ca D hC hR hag hW ls hh)
theorem ev_istore_n {i : Fin 4} {x : Int32} (hd : decode M.2.1 pc = .ok (.istore_n i, 1)) (hn : Nat.blt (i : Nat) M.2.2.1 = true) (hc : bv_nl L i = true) (k : bv_Ev M X d n0 n1 Q (pc + 1) (L.set i (some (.int x))) st n mr mi) : bv_Ev M X d n0 n1 Q pc L (.int x :: st) n mr mi :=
  fun l p e R s m args below meth c H locs ad0 ad ca0 ca D hC hR hag hW ls hh => lv_istore_n hC.1 hC.2.1 hd rfl hh (Nat.blt_eq.mp hn) rfl (fun ls' h2 => k l p e R s m args below meth c H locs ad0 ad ca0 ca D hC hR hag hW ls' (bv_L_set (v := .int x) h2 hc))
theorem ev_istore {i : Nat} {x : Int32} (hd : decode M.2.1 pc = .ok (.istore i, 2)) (hn : Nat.blt i M.2.2.1 = true) (hc : bv_nl L i = true) (k : bv_Ev M X d n0 n1 Q (pc + 2) (L.set i (some (.int x))) st n mr mi) : bv_Ev M X d n0 n1 Q pc L (.int x :: st) n mr mi :=
  fun l p e R s m args below meth c H locs ad0 ad ca0 ca D hC hR hag hW ls hh => lv_istore hC.1 hC.2.1 hd hh (Nat.blt_eq.mp hn) rfl (fun ls' h2 => k l p e R s m args below meth c H locs ad0 ad ca0 ca D hC hR hag hW ls' (bv_L_set (v := .int x) h2 hc))
theorem ev_astore_n {i : Fin 4} {x : Nat} (hd : decode M.2.1 pc = .ok (.astore_n i, 1)) (hn : Nat.blt (i : Nat) M.2.2.1 = true) (hc : bv_nl L i = true) (k : bv_Ev M X d n0 n1 Q (pc + 1) (L.set i (some (.ref x))) st n mr mi) : bv_Ev M X d n0 n1 Q pc L (.ref x :: st) n mr mi :=
  fun l p e R s m args below meth c H locs ad0 ad ca0 ca D hC hR hag hW ls hh => lv_astore_n hC.1 hC.2.1 hd rfl hh (Nat.blt_eq.mp hn) rfl (fun ls' h2 => k l p e R s m args below meth c H locs ad0 ad ca0 ca D hC hR hag hW ls' (bv_L_set (v := .ref x) h2 hc))
theorem ev_astore {i : Nat} {x : Nat} (hd : decode M.2.1 pc = .ok (.astore i, 2)) (hn : Nat.blt i M.2.2.1 = true) (hc : bv_nl L i = true) (k : bv_Ev M X d n0 n1 Q (pc + 2) (L.set i (some (.ref x))) st n mr mi) : bv_Ev M X d n0 n1 Q pc L (.ref x :: st) n mr mi :=
  fun l p e R s m args below meth c H locs ad0 ad ca0 ca D hC hR hag hW ls hh => lv_astore hC.1 hC.2.1 hd hh (Nat.blt_eq.mp hn) rfl (fun ls' h2 => k l p e R s m args below meth c H locs ad0 ad ca0 ca D hC hR hag hW ls' (bv_L_set (v := .ref x) h2 hc))
theorem ev_iinc {i : Nat} {v : Int} {x : Int32} (z : Int32) (hd : decode M.2.1 pc = .ok (.iinc i v, 3)) (hl : L[i]? = some (some (.int x))) (hz : x + Int32.ofInt v = z) (hn : Nat.blt i M.2.2.1 = true) (hc : bv_nl L i = true) (k : bv_Ev M X d n0 n1 Q (pc + 3) (L.set i (some (.int z))) st n mr mi) : bv_Ev M X d n0 n1 Q pc L st n mr mi := by
  intro l p e R s m args below meth c H locs ad0 ad ca0 ca D hC hR hag hW ls hh
  obtain ⟨q, hq⟩ := List.getElem?_of_mem (bv_lv_mem (ad := ad).mpr ⟨_, hl, rfl⟩)
  exact lv_iinc hC.1 hC.2.1 hd hh hq hz (Nat.blt_eq.mp hn) rfl (fun ls' h2 => k l p e R s m args below meth c H locs ad0 ad ca0 ca D hC hR hag hW ls' (bv_L_set (v := .int z) h2 hc))
theorem ev_idiv {x y : Int32} (hd : decode M.2.1 pc = .ok (.idiv, 1)) (hy : ¬ y = 0) (k : bv_Ev M X d n0 n1 Q (pc + 1) L (.int (x / y) :: st) n mr mi) : bv_Ev M X d n0 n1 Q pc L (.int y :: .int x :: st) n mr mi :=
  fun l p e R s m args below meth c H locs ad0 ad ca0 ca D hC hR hag hW ls hl => lv_idiv hC.1 hC.2.1 hd hy (k l p e R s m args below meth c H locs ad0 ad ca0 ca D hC hR hag hW ls hl)
theorem ev_irem {x y : Int32} (hd : decode M.2.1 pc = .ok (.irem, 1)) (hy : ¬ y = 0) (k : bv_Ev M X d n0 n1 Q (pc + 1) L (.int (x - x / y * y) :: st) n mr mi) : bv_Ev M X d n0 n1 Q pc L (.int y :: .int x :: st) n mr mi :=
  fun l p e R s m args below meth c H locs ad0 ad ca0 ca D hC hR hag hW ls hl => lv_irem hC.1 hC.2.1 hd hy (k l p e R s m args below meth c H locs ad0 ad ca0 ca D hC hR hag hW ls hl)
theorem ev_dup {v : Value} (hd : decode M.2.1 pc = .ok (.dup, 1)) (hv : v.category = 1) (k : bv_Ev M X d n0 n1 Q (pc + 1) L (v :: v :: st) n mr mi) : bv_Ev M X d n0 n1 Q pc L (v :: st) n mr mi :=
  fun l p e R s m args below meth c H locs ad0 ad ca0 ca D hC hR hag hW ls hl => lv_dup hC.1 hC.2.1 hd ((bv_cv_cat ad v).trans hv) (k l p e R s m args below meth c H locs ad0 ad ca0 ca D hC hR hag hW ls hl)
theorem ev_pop {v : Value} (hd : decode M.2.1 pc = .ok (.pop, 1)) (hv : v.category = 1) (k : bv_Ev M X d n0 n1 Q (pc + 1) L st n mr mi) : bv_Ev M X d n0 n1 Q pc L (v :: st) n mr mi :=
  fun l p e R s m args below meth c H locs ad0 ad ca0 ca D hC hR hag hW ls hl => lv_pop hC.1 hC.2.1 hd ((bv_cv_cat ad v).trans hv) (k l p e R s m args below meth c H locs ad0 ad ca0 ca D hC hR hag hW ls hl)
theorem ev_dup2 {v w : Value} (hd : decode M.2.1 pc = .ok (.dup2, 1)) (hv : v.category = 1) (hw : w.category = 1) (k : bv_Ev M X d n0 n1 Q (pc + 1) L (v :: w :: v :: w :: st) n mr mi) : bv_Ev M X d n0 n1 Q pc L (v :: w :: st) n mr mi :=
  fun l p e R s m args below meth c H locs ad0 ad ca0 ca D hC hR hag hW ls hl => lv_dup2_11 hC.1 hC.2.1 hd ((bv_cv_cat ad v).trans hv) ((bv_cv_cat ad w).trans hw) (k l p e R s m args below meth c H locs ad0 ad ca0 ca D hC hR hag hW ls hl)
theorem ev_goto {off : Int} (tgt : Nat) (hd : decode M.2.1 pc = .ok (.goto off, 3)) (ht : (pc : Int) + off = (tgt : Int)) (k : bv_Ev M X d n0 n1 Q tgt L st n mr mi) : bv_Ev M X d n0 n1 Q pc L st n mr mi :=
  fun l p e R s m args below meth c H locs ad0 ad ca0 ca D hC hR hag hW ls hl => lv_goto hC.1 hC.2.1 hd ht (k l p e R s m args below meth c H locs ad0 ad ca0 ca D hC hR hag hW ls hl)
theorem ev_if_eq {x : Int32} {off : Int} (tgt : Nat) (hd : decode M.2.1 pc = .ok (.ifCond .eq off, 3)) (ht : (pc : Int) + off = (tgt : Int)) (kt : x = 0 → bv_Ev M X d n0 n1 Q tgt L st n mr mi) (kf : ¬ x = 0 → bv_Ev M X d n0 n1 Q (pc + 3) L st n mr mi) : bv_Ev M X d n0 n1 Q pc L (.int x :: st) n mr mi :=
  fun l p e R s m args below meth c H locs ad0 ad ca0 ca D hC hR hag hW ls hl => lv_if_eq hC.1 hC.2.1 hd ht (fun h => kt h l p e R s m args below meth c H locs ad0 ad ca0 ca D hC hR hag hW ls hl) (fun h => kf h l p e R s m args below meth c H locs ad0 ad ca0 ca D hC hR hag hW ls hl)
theorem ev_if_ne {x : Int32} {off : Int} (tgt : Nat) (hd : decode M.2.1 pc = .ok (.ifCond .ne off, 3)) (ht : (pc : Int) + off = (tgt : Int)) (kt : ¬ x = 0 → bv_Ev M X d n0 n1 Q tgt L st n mr mi) (kf : x = 0 → bv_Ev M X d n0 n1 Q (pc + 3) L st n mr mi) : bv_Ev M X d n0 n1 Q pc L (.int x :: st) n mr mi :=
  fun l p e R s m args below meth c H locs ad0 ad ca0 ca D hC hR hag hW ls hl => lv_if_ne hC.1 hC.2.1 hd ht (fun h => kt h l p e R s m args below meth c H locs ad0 ad ca0 ca D hC hR hag hW ls hl) (fun h => kf h l p e R s m args below meth c H locs ad0 ad ca0 ca D hC hR hag hW ls hl)
theorem ev_if_lt {x : Int32} {off : Int} (tgt : Nat) (hd : decode M.2.1 pc = .ok (.ifCond .lt off, 3)) (ht : (pc : Int) + off = (tgt : Int)) (kt : x < 0 → bv_Ev M X d n0 n1 Q tgt L st n mr mi) (kf : ¬ x < 0 → bv_Ev M X d n0 n1 Q (pc + 3) L st n mr mi) : bv_Ev M X d n0 n1 Q pc L (.int x :: st) n mr mi :=
  fun l p e R s m args below meth c H locs ad0 ad ca0 ca D hC hR hag hW ls hl => lv_if_lt hC.1 hC.2.1 hd ht (fun h => kt h l p e R s m args below meth c H locs ad0 ad ca0 ca D hC hR hag hW ls hl) (fun h => kf h l p e R s m args below meth c H locs ad0 ad ca0 ca D hC hR hag hW ls hl)
theorem ev_if_ge {x : Int32} {off : Int} (tgt : Nat) (hd : decode M.2.1 pc = .ok (.ifCond .ge off, 3)) (ht : (pc : Int) + off = (tgt : Int)) (kt : 0 ≤ x → bv_Ev M X d n0 n1 Q tgt L st n mr mi) (kf : ¬ 0 ≤ x → bv_Ev M X d n0 n1 Q (pc + 3) L st n mr mi) : bv_Ev M X d n0 n1 Q pc L (.int x :: st) n mr mi :=
  fun l p e R s m args below meth c H locs ad0 ad ca0 ca D hC hR hag hW ls hl => lv_if_ge hC.1 hC.2.1 hd ht (fun h => kt h l p e R s m args below meth c H locs ad0 ad ca0 ca D hC hR hag hW ls hl) (fun h => kf h l p e R s m args below meth c H locs ad0 ad ca0 ca D hC hR hag hW ls hl)
theorem ev_if_gt {x : Int32} {off : Int} (tgt : Nat) (hd : decode M.2.1 pc = .ok (.ifCond .gt off, 3)) (ht : (pc : Int) + off = (tgt : Int)) (kt : 0 < x → bv_Ev M X d n0 n1 Q tgt L st n mr mi) (kf : ¬ 0 < x → bv_Ev M X d n0 n1 Q (pc + 3) L st n mr mi) : bv_Ev M X d n0 n1 Q pc L (.int x :: st) n mr mi :=
  fun l p e R s m args below meth c H locs ad0 ad ca0 ca D hC hR hag hW ls hl => lv_if_gt hC.1 hC.2.1 hd ht (fun h => kt h l p e R s m args below meth c H locs ad0 ad ca0 ca D hC hR hag hW ls hl) (fun h => kf h l p e R s m args below meth c H locs ad0 ad ca0 ca D hC hR hag hW ls hl)
theorem ev_if_le {x : Int32} {off : Int} (tgt : Nat) (hd : decode M.2.1 pc = .ok (.ifCond .le off, 3)) (ht : (pc : Int) + off = (tgt : Int)) (kt : x ≤ 0 → bv_Ev M X d n0 n1 Q tgt L st n mr mi) (kf : ¬ x ≤ 0 → bv_Ev M X d n0 n1 Q (pc + 3) L st n mr mi) : bv_Ev M X d n0 n1 Q pc L (.int x :: st) n mr mi :=
  fun l p e R s m args below meth c H locs ad0 ad ca0 ca D hC hR hag hW ls hl => lv_if_le hC.1 hC.2.1 hd ht (fun h => kt h l p e R s m args below meth c H locs ad0 ad ca0 ca D hC hR hag hW ls hl) (fun h => kf h l p e R s m args below meth c H locs ad0 ad ca0 ca D hC hR hag hW ls hl)
theorem ev_icmp_eq {x y : Int32} {off : Int} (tgt : Nat) (hd : decode M.2.1 pc = .ok (.if_icmp .eq off, 3)) (ht : (pc : Int) + off = (tgt : Int)) (kt : x = y → bv_Ev M X d n0 n1 Q tgt L st n mr mi) (kf : ¬ x = y → bv_Ev M X d n0 n1 Q (pc + 3) L st n mr mi) : bv_Ev M X d n0 n1 Q pc L (.int y :: .int x :: st) n mr mi :=
  fun l p e R s m args below meth c H locs ad0 ad ca0 ca D hC hR hag hW ls hl => lv_icmp_eq hC.1 hC.2.1 hd ht (fun h => kt h l p e R s m args below meth c H locs ad0 ad ca0 ca D hC hR hag hW ls hl) (fun h => kf h l p e R s m args below meth c H locs ad0 ad ca0 ca D hC hR hag hW ls hl)
theorem ev_icmp_ne {x y : Int32} {off : Int} (tgt : Nat) (hd : decode M.2.1 pc = .ok (.if_icmp .ne off, 3)) (ht : (pc : Int) + off = (tgt : Int)) (kt : ¬ x = y → bv_Ev M X d n0 n1 Q tgt L st n mr mi) (kf : x = y → bv_Ev M X d n0 n1 Q (pc + 3) L st n mr mi) : bv_Ev M X d n0 n1 Q pc L (.int y :: .int x :: st) n mr mi :=
  fun l p e R s m args below meth c H locs ad0 ad ca0 ca D hC hR hag hW ls hl => lv_icmp_ne hC.1 hC.2.1 hd ht (fun h => kt h l p e R s m args below meth c H locs ad0 ad ca0 ca D hC hR hag hW ls hl) (fun h => kf h l p e R s m args below meth c H locs ad0 ad ca0 ca D hC hR hag hW ls hl)
theorem ev_icmp_lt {x y : Int32} {off : Int} (tgt : Nat) (hd : decode M.2.1 pc = .ok (.if_icmp .lt off, 3)) (ht : (pc : Int) + off = (tgt : Int)) (kt : x < y → bv_Ev M X d n0 n1 Q tgt L st n mr mi) (kf : ¬ x < y → bv_Ev M X d n0 n1 Q (pc + 3) L st n mr mi) : bv_Ev M X d n0 n1 Q pc L (.int y :: .int x :: st) n mr mi :=
  fun l p e R s m args below meth c H locs ad0 ad ca0 ca D hC hR hag hW ls hl => lv_icmp_lt hC.1 hC.2.1 hd ht (fun h => kt h l p e R s m args below meth c H locs ad0 ad ca0 ca D hC hR hag hW ls hl) (fun h => kf h l p e R s m args below meth c H locs ad0 ad ca0 ca D hC hR hag hW ls hl)
theorem ev_icmp_ge {x y : Int32} {off : Int} (tgt : Nat) (hd : decode M.2.1 pc = .ok (.if_icmp .ge off, 3)) (ht : (pc : Int) + off = (tgt : Int)) (kt : y ≤ x → bv_Ev M X d n0 n1 Q tgt L st n mr mi) (kf : ¬ y ≤ x → bv_Ev M X d n0 n1 Q (pc + 3) L st n mr mi) : bv_Ev M X d n0 n1 Q pc L (.int y :: .int x :: st) n mr mi :=
  fun l p e R s m args below meth c H locs ad0 ad ca0 ca D hC hR hag hW ls hl => lv_icmp_ge hC.1 hC.2.1 hd ht (fun h => kt h l p e R s m args below meth c H locs ad0 ad ca0 ca D hC hR hag hW ls hl) (fun h => kf h l p e R s m args below meth c H locs ad0 ad ca0 ca D hC hR hag hW ls hl)
theorem ev_icmp_gt {x y : Int32} {off : Int} (tgt : Nat) (hd : decode M.2.1 pc = .ok (.if_icmp .gt off, 3)) (ht : (pc : Int) + off = (tgt : Int)) (kt : y < x → bv_Ev M X d n0 n1 Q tgt L st n mr mi) (kf : ¬ y < x → bv_Ev M X d n0 n1 Q (pc + 3) L st n mr mi) : bv_Ev M X d n0 n1 Q pc L (.int y :: .int x :: st) n mr mi :=
  fun l p e R s m args below meth c H locs ad0 ad ca0 ca D hC hR hag hW ls hl => lv_icmp_gt hC.1 hC.2.1 hd ht (fun h => kt h l p e R s m args below meth c H locs ad0 ad ca0 ca D hC hR hag hW ls hl) (fun h => kf h l p e R s m args below meth c H locs ad0 ad ca0 ca D hC hR hag hW ls hl)
theorem ev_icmp_le {x y : Int32} {off : Int} (tgt : Nat) (hd : decode M.2.1 pc = .ok (.if_icmp .le off, 3)) (ht : (pc : Int) + off = (tgt : Int)) (kt : x ≤ y → bv_Ev M X d n0 n1 Q tgt L st n mr mi) (kf : ¬ x ≤ y → bv_Ev M X d n0 n1 Q (pc + 3) L st n mr mi) : bv_Ev M X d n0 n1 Q pc L (.int y :: .int x :: st) n mr mi :=
  fun l p e R s m args below meth c H locs ad0 ad ca0 ca D hC hR hag hW ls hl => lv_icmp_le hC.1 hC.2.1 hd ht (fun h => kt h l p e R s m args below meth c H locs ad0 ad ca0 ca D hC hR hag hW ls hl) (fun h => kf h l p e R s m args below meth c H locs ad0 ad ca0 ca D hC hR hag hW ls hl)
theorem ev_lookup {dflt : Int} {ps : Array (Int × Int)} {len : Nat} {x : Int32} (off : Int) (tgt : Nat) (hd : decode M.2.1 pc = .ok (.lookupswitch dflt ps, len)) (hp : (ps.toList.zip (ps.toList.drop 1)).all (fun (a, next) => a.1 < next.1) = true) (ho : Op.lookupswitch.offset ps.toList dflt x.toInt = off) (ht : (pc : Int) + off = (tgt : Int))
    (k : bv_Ev M X d n0 n1 Q tgt L st n mr mi) : bv_Ev M X d n0 n1 Q pc L (.int x :: st) n mr mi :=
  fun l p e R s m args below meth c H locs ad0 ad ca0 ca D hC hR hag hW ls hl => lv_lookup hC.1 hC.2.1 hd hp ho ht (k l p e R s m args below meth c H locs ad0 ad ca0 ca D hC hR hag hW ls hl)
theorem ev_tableIn {dflt lo hi : Int} {offs : Array Int} {len : Nat} {x : Int32} (off : Int) (tgt : Nat) (hd : decode M.2.1 pc = .ok (.tableswitch dflt lo hi offs, len)) (h1 : ¬ x.toInt < lo) (h2 : ¬ hi < x.toInt) (ho : offs[(x.toInt - lo).toNat]? = some off) (ht : (pc : Int) + off = (tgt : Int))
    (k : bv_Ev M X d n0 n1 Q tgt L st n mr mi) : bv_Ev M X d n0 n1 Q pc L (.int x :: st) n mr mi :=
  fun l p e R s m args below meth c H locs ad0 ad ca0 ca D hC hR hag hW ls hl => lv_tableIn hC.1 hC.2.1 hd h1 h2 ho ht (k l p e R s m args below meth c H locs ad0 ad ca0 ca D hC hR hag hW ls hl)
theorem ev_tableOut {dflt lo hi : Int} {offs : Array Int} {len : Nat} {x : Int32} (tgt : Nat) (hd : decode M.2.1 pc = .ok (.tableswitch dflt lo hi offs, len)) (h : x.toInt < lo ∨ hi < x.toInt) (ht : (pc : Int) + dflt = (tgt : Int))
    (k : bv_Ev M X d n0 n1 Q tgt L st n mr mi) : bv_Ev M X d n0 n1 Q pc L (.int x :: st) n mr mi :=
  fun l p e R s m args below meth c H locs ad0 ad ca0 ca D hC hR hag hW ls hl => lv_tableOut hC.1 hC.2.1 hd h ht (k l p e R s m args below meth c H locs ad0 ad ca0 ca D hC hR hag hW ls hl)
theorem ev_iret {v : Int32} (hr : M.2.2.2.1 = some .int) (hd : decode M.2.1 pc = .ok (.ireturn, 1)) (hq : Q (some (.int v)) mr mi) : bv_Ev M X d n0 n1 Q pc L [.int v] n1 mr mi :=
  fun l p e R s m args below meth c H locs ad0 ad ca0 ca D hC hR hag hW ls hl => W.iret (v := v) hC.1 hC.2.1 (hC.2.2.2.2.2.1.trans hr) (fun t ht hW2 => ⟨_, mr, mi, ad, ca, hq, hag, rfl, by rw [ht]; exact hW.1, hW.2.1, hW.2.2.2.1.moved hW2.alike, hW.2.2.2.2, hW.2.2.1.F ht⟩) hW.2.2.1.2.2 hd hC.2.2.2.2.2.2.1
theorem ev_zret {v : Int32} (hr : M.2.2.2.1 = some .boolean) (hv : v = 0 ∨ v = 1) (hd : decode M.2.1 pc = .ok (.ireturn, 1)) (hq : Q (some (.int v)) mr mi) : bv_Ev M X d n0 n1 Q pc L [.int v] n1 mr mi :=
  fun l p e R s m args below meth c H locs ad0 ad ca0 ca D hC hR hag hW ls hl => W.zret (v := v) hC.1 hC.2.1 (hC.2.2.2.2.2.1.trans hr) (by rcases hv with rfl | rfl <;> decide) (fun t ht hW2 => ⟨_, mr, mi, ad, ca, hq, hag, rfl, by rw [ht]; exact hW.1, hW.2.1, hW.2.2.2.1.moved hW2.alike, hW.2.2.2.2, hW.2.2.1.F ht⟩) hW.2.2.1.2.2 hd hC.2.2.2.2.2.2.1
theorem ev_vret (hr : M.2.2.2.1 = none) (hd : decode M.2.1 pc = .ok (.return_, 1)) (hq : Q none mr mi) : bv_Ev M X d n0 n1 Q pc L [] n1 mr mi :=
  fun l p e R s m args below meth c H locs ad0 ad ca0 ca D hC hR hag hW ls hl => W.vret hC.1 hC.2.1 (hC.2.2.2.2.2.1.trans hr) (fun t ht hW2 => ⟨none, mr, mi, ad, ca, hq, hag, rfl, by rw [ht]; exact hW.1, hW.2.1, hW.2.2.2.1.moved hW2.alike, hW.2.2.2.2, hW.2.2.1.F ht⟩) hW.2.2.1.2.2 hd hC.2.2.2.2.2.2.1
theorem ev_aret {v : Nat} {C : String} (hr : M.2.2.2.1 = some (.object C)) (hd : decode M.2.1 pc = .ok (.areturn, 1)) (hq : Q (some (.ref v)) mr mi) : bv_Ev M X d n0 n1 Q pc L [.ref v] n1 mr mi :=
  fun l p e R s m args below meth c H locs ad0 ad ca0 ca D hC hR hag hW ls hl => W.aret (v := .ref (ad v)) hC.1 hC.2.1 (hC.2.2.2.2.2.1.trans hr) (Or.inl ⟨C, rfl⟩) (Or.inr ⟨_, rfl⟩) (fun t ht hW2 => ⟨some (.ref v), mr, mi, ad, ca, hq, hag, rfl, by rw [ht]; exact hW.1, hW.2.1, hW.2.2.2.1.moved hW2.alike, hW.2.2.2.2, hW.2.2.1.F ht⟩) hW.2.2.1.2.2 hd hC.2.2.2.2.2.2.1
end RULES
