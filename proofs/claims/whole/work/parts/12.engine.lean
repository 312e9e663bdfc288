/-! THE ENGINE: a judgement over pictures (cells by number, one memory of ints), proved of the machine once; every method's walk is over it. -/
abbrev bv_Shp : Type := (FieldType × Nat) ⊕ Nat
abbrev bv_Rfs : Type := Nat → Nat → Option Nat
abbrev bv_Mem : Type := Nat → Nat → Int32
abbrev bv_M : Type := String × ByteArray × Nat × Option FieldType × Bool
abbrev bv_Xt : Type := Nat → Option (FieldType × Nat × (Nat → Int32))
/-- a Town's cells -/
def bv_town : List bv_Shp := [.inr 5, .inr 1, .inl (.int, 20), .inl (.int, 20), .inl (.int, 5), .inl (.object RX0, 8), .inr 4, .inl (.byte, 50), .inr 4, .inl (.byte, 50), .inr 4, .inl (.byte, 50), .inl (.int, 20), .inr 0, .inr 0, .inr 0, .inr 0, .inr 0, .inr 0, .inr 0, .inr 0]
/-- all cells that the law makes, in their order -/
def bv_SH : List bv_Shp := [.inr 7, .inr 5, .inr 1, .inl (.int, 20), .inl (.int, 20), .inl (.int, 5), .inl (.object RX0, 8), .inr 4, .inl (.byte, 50), .inr 4, .inl (.byte, 50), .inr 4, .inl (.byte, 50), .inl (.int, 20), .inr 0, .inr 0, .inr 0, .inr 0, .inr 0, .inr 0, .inr 0, .inr 0,
  .inr 5, .inr 1, .inl (.int, 20), .inl (.int, 20), .inl (.int, 5), .inl (.object RX0, 8), .inr 4, .inl (.byte, 50), .inr 4, .inl (.byte, 50), .inr 4, .inl (.byte, 50), .inl (.int, 20), .inr 0, .inr 0, .inr 0, .inr 0, .inr 0, .inr 0, .inr 0, .inr 0,
  .inr 2, .inr 4, .inl (.byte, 50), .inl (.int, 3), .inr 6, .inl (.int, 40), .inl (.object RX3, 4), .inl (.int, 6), .inl (.int, 8), .inl (.int, 8), .inr 3, .inl (.int, 40), .inr 3, .inl (.int, 40), .inr 3, .inl (.int, 40), .inr 3, .inl (.int, 40),
  .inr 8, .inl (.int, 371), .inl (.int, 371), .inl (.int, 371), .inl (.int, 6), .inl (.int, 50), .inl (.int, 50), .inl (.int, 3), .inl (.int, 50), .inl (.int, 40), .inl (.int, 4), .inl (.int, 4), .inl (.int, 160)]
def bv_sh (k : Nat) : bv_Shp := bv_SH.getD k (.inr 0)
def bv_isref : FieldType → Bool
  | .object _ => true
  | .array _ => true
  | _ => false
def bv_kd : FieldType → Nat
  | .int => 0
  | .byte => 1
  | .object _ => 2
  | _ => 3
def bv_T (ci : Nat) : u_T := match ci with
  | 0 => TX0 | 1 => TX1 | 2 => TX2 | 3 => TX3 | 4 => TX4 | 5 => TX5 | 6 => TX6 | 7 => TX7 | _ => TX8
def bv_fty (ci : Nat) : Nat → FieldType := match ci with
  | 0 => tyX0 | 1 => tyX1 | 2 => tyX2 | 3 => tyX3 | 4 => tyX4 | 5 => tyX5 | 6 => tyX6 | 7 => tyX7 | _ => tyX8
def bv_R (ci : Nat) : String := match ci with
  | 0 => RX0 | 1 => RX1 | 2 => RX2 | 3 => RX3 | 4 => RX4 | 5 => RX5 | 6 => RX6 | 7 => RX7 | _ => RX8
def bv_nf (ci : Nat) : Nat := match ci with
  | 0 => 6 | 1 => 2 | 2 => 6 | 3 => 3 | 4 => 2 | 5 => 12 | 6 => 5 | 7 => 9 | _ => 19
def bv_slots (x : bv_Shp) : Nat := match x with
  | .inl y => y.2
  | .inr ci => bv_nf ci
def bv_len (k : Nat) : Nat := match bv_sh k with
  | .inl y => y.2
  | .inr _ => 0
def bv_sz : Nat → Nat
  | 0 => 0
  | n + 1 => bv_sz n + bv_slots (bv_sh n)
def bv_cv (ad : Nat → Nat) (v : Value) : Value := match v with
  | .ref a => .ref (ad a)
  | .int x => .int x
  | .long x => .long x
  | .float x => .float x
  | .double x => .double x
  | .null => .null
  | .retAddr x => .retAddr x
def bv_cell (ad : Nat → Nat) (ca : Nat → ClassId) (mr : bv_Rfs) (mi : bv_Mem) (k : Nat) (x : bv_Shp) : va_E := match x with
  | .inl y => .inl (ca k, y.2, if bv_isref y.1 = true then .inr (.inr (.inr (.inr (fun j => (mr k j).map ad)))) else .inl (mi k))
  | .inr ci => .inr (ci, (List.range (bv_nf ci)).map (fun j => if bv_isref (bv_fty ci j) = true then va_rf ((mr k j).map ad) else .int (mi k j)))
def bv_ws (ad : Nat → Nat) (ca : Nat → ClassId) (n : Nat) (mr : bv_Rfs) (mi : bv_Mem) : va_W := (List.range n).map (fun k => (ad k, bv_cell ad ca mr mi k (bv_sh k)))
def bv_up (mi : bv_Mem) (a k : Nat) (v : Int32) : bv_Mem := fun a' k' => if a' = a ∧ k' = k then v else mi a' k'
def bv_upr (mr : bv_Rfs) (a k : Nat) (v : Option Nat) : bv_Rfs := fun a' k' => if a' = a ∧ k' = k then v else mr a' k'
def bv_cp (mi : bv_Mem) (a b sp dp n : Nat) : bv_Mem := fun a' k' => if a' = b ∧ dp ≤ k' ∧ k' < dp + n then mi a (sp + (k' - dp)) else mi a' k'
def bv_isC (n a ci : Nat) : Bool := Nat.blt a n && (match bv_sh a with
  | .inr c => Nat.beq c ci
  | .inl _ => false)
def bv_isA (n a kd N : Nat) : Bool := Nat.blt a n && (match bv_sh a with
  | .inl y => Nat.beq (bv_kd y.1) kd && Nat.beq y.2 N
  | .inr _ => false)
def bv_in (i : Int32) (N : Nat) : Bool := !(decide (i < 0)) && decide (i.toNatClampNeg < N)
theorem bv_in_vp {i : Int32} {N : Nat} (h : bv_in i N = true) : vp_in i N := by
  simp [bv_in] at h
  rintro (h1 | h1)
  · have := h.1
    exact absurd h1 (by simpa using this)
  · omega
theorem bv_isC_spec {n a ci : Nat} (h : bv_isC n a ci = true) : a < n ∧ bv_sh a = .inr ci := by
  unfold bv_isC at h
  rw [Bool.and_eq_true] at h
  refine ⟨Nat.blt_eq.mp h.1, ?_⟩
  cases hx : bv_sh a with
  | inl y => rw [hx] at h; exact absurd h.2 (by simp)
  | inr c => rw [hx] at h; rw [Nat.eq_of_beq_eq_true h.2]
theorem bv_isA_spec {n a kd N : Nat} (h : bv_isA n a kd N = true) : a < n ∧ ∃ ty, bv_sh a = .inl (ty, N) ∧ bv_kd ty = kd := by
  unfold bv_isA at h
  rw [Bool.and_eq_true] at h
  refine ⟨Nat.blt_eq.mp h.1, ?_⟩
  cases hx : bv_sh a with
  | inr y => rw [hx] at h; exact absurd h.2 (by simp)
  | inl y =>
    rw [hx] at h
    have h2 := h.2
    simp only [Bool.and_eq_true] at h2
    obtain ⟨t, m⟩ := y
    have e1 := Nat.eq_of_beq_eq_true h2.2
    simp only at e1
    subst e1
    exact ⟨t, rfl, Nat.eq_of_beq_eq_true h2.1⟩
theorem bv_kd0 {ty : FieldType} (h : bv_kd ty = 0) : ty = .int := by cases ty <;> simp [bv_kd] at h ⊢
theorem bv_kd1 {ty : FieldType} (h : bv_kd ty = 1) : ty = .byte := by cases ty <;> simp [bv_kd] at h ⊢
theorem bv_kd2 {ty : FieldType} (h : bv_kd ty = 2) : ∃ C, ty = .object C := by cases ty <;> simp [bv_kd] at h ⊢
theorem bv_ws_at (ad : Nat → Nat) (ca : Nat → ClassId) {n a : Nat} (mr : bv_Rfs) (mi : bv_Mem) (h : a < n) : (bv_ws ad ca n mr mi)[a]? = some (ad a, bv_cell ad ca mr mi a (bv_sh a)) := by
  unfold bv_ws
  rw [List.getElem?_map, List.getElem?_range h]
  rfl
theorem bv_ws_len (ad : Nat → Nat) (ca : Nat → ClassId) (n : Nat) (mr : bv_Rfs) (mi : bv_Mem) : (bv_ws ad ca n mr mi).length = n := by
  unfold bv_ws
  rw [List.length_map, List.length_range]
theorem bv_mapset {α : Type} {N k : Nat} {g g' : Nat → α} {v : α} (h1 : g' k = v) (h2 : ∀ j, j ≠ k → g' j = g j) : ((List.range N).map g).set k v = (List.range N).map g' := by
  apply List.ext_getElem?
  intro j
  rw [List.getElem?_set]
  by_cases hj : k = j
  · subst hj
    rw [if_pos rfl]
    by_cases hk : k < N
    · rw [if_pos (by rw [List.length_map, List.length_range]; exact hk), List.getElem?_map, List.getElem?_range hk, ← h1]
      rfl
    · rw [if_neg (by rw [List.length_map, List.length_range]; exact hk), List.getElem?_map, List.getElem?_eq_none (by rw [List.length_range]; omega)]
      rfl
  · rw [if_neg hj, List.getElem?_map, List.getElem?_map]
    by_cases hk : j < N
    · rw [List.getElem?_range hk]
      show some (g j) = some (g' j)
      rw [h2 j (fun q => hj q.symm)]
    · rw [List.getElem?_eq_none (by rw [List.length_range]; omega)]
      rfl
theorem bv_up_ne {mi : bv_Mem} {a k a' k' : Nat} {v : Int32} (h : a' ≠ a) : bv_up mi a k v a' k' = mi a' k' := by simp [bv_up, h]
theorem bv_cell_other {ad : Nat → Nat} {ca : Nat → ClassId} {mr mr' : bv_Rfs} {mi mi' : bv_Mem} {k : Nat} {x : bv_Shp} (h1 : mr' k = mr k) (h2 : mi' k = mi k) : bv_cell ad ca mr' mi' k x = bv_cell ad ca mr mi k x := by
  cases x with
  | inl y => simp [bv_cell, h1, h2]
  | inr c => simp [bv_cell, h1, h2]
/-- a world with one cell of it changed -/
theorem bv_ws_set {ad : Nat → Nat} {ca : Nat → ClassId} {n a : Nat} {mr mr' : bv_Rfs} {mi mi' : bv_Mem} {e : va_E} (he : bv_cell ad ca mr' mi' a (bv_sh a) = e) (h1 : ∀ k, k ≠ a → mr' k = mr k) (h2 : ∀ k, k ≠ a → mi' k = mi k) : (bv_ws ad ca n mr mi).set a (ad a, e) = bv_ws ad ca n mr' mi' := by
  unfold bv_ws
  apply bv_mapset
  · rw [he]
  · intro j hj
    rw [bv_cell_other (h1 j hj) (h2 j hj)]
theorem bv_up_row {mi : bv_Mem} {a k j : Nat} {v : Int32} : j ≠ a → (bv_up mi a k v) j = mi j := fun h => by
  funext q
  simp [bv_up, h]
theorem bv_upr_row {mr : bv_Rfs} {a k j : Nat} {v : Option Nat} : j ≠ a → (bv_upr mr a k v) j = mr j := fun h => by
  funext q
  simp [bv_upr, h]
theorem bv_cp_row {mi : bv_Mem} {a b sp dp n j : Nat} : j ≠ b → (bv_cp mi a b sp dp n) j = mi j := fun h => by
  funext q
  simp [bv_cp, h]
/-- a field of ints written -/
theorem bv_ws_putI {ad : Nat → Nat} {ca : Nat → ClassId} {n a ci k : Nat} {mr : bv_Rfs} {mi : bv_Mem} {v : Int32} (hs : bv_sh a = .inr ci) (hr : bv_isref (bv_fty ci k) = false) :
    (bv_ws ad ca n mr mi).set a (ad a, .inr (ci, ((List.range (bv_nf ci)).map (fun j => if bv_isref (bv_fty ci j) = true then va_rf ((mr a j).map ad) else Value.int (mi a j))).set k (.int v))) = bv_ws ad ca n mr (bv_up mi a k v) := by
  apply bv_ws_set _ (fun _ _ => rfl) (fun j hj => bv_up_row hj)
  rw [hs]
  show Sum.inr (ci, _) = Sum.inr (ci, _)
  congr 2
  symm
  apply bv_mapset
  · rw [hr]
    simp [bv_up]
  · intro j hj
    simp [bv_up, hj]
theorem bv_ws_putR {ad : Nat → Nat} {ca : Nat → ClassId} {n a ci k : Nat} {mr : bv_Rfs} {mi : bv_Mem} {q : Nat} (hs : bv_sh a = .inr ci) (hr : bv_isref (bv_fty ci k) = true) :
    (bv_ws ad ca n mr mi).set a (ad a, .inr (ci, ((List.range (bv_nf ci)).map (fun j => if bv_isref (bv_fty ci j) = true then va_rf ((mr a j).map ad) else Value.int (mi a j))).set k (.ref (ad q)))) = bv_ws ad ca n (bv_upr mr a k (some q)) mi := by
  apply bv_ws_set _ (fun j hj => bv_upr_row hj) (fun _ _ => rfl)
  rw [hs]
  show Sum.inr (ci, _) = Sum.inr (ci, _)
  congr 2
  symm
  apply bv_mapset
  · rw [hr]
    simp [bv_upr, va_rf]
  · intro j hj
    simp [bv_upr, hj]
theorem bv_ws_iast {ad : Nat → Nat} {ca : Nat → ClassId} {n a k N : Nat} {ty : FieldType} {mr : bv_Rfs} {mi : bv_Mem} {v : Int32} (hs : bv_sh a = .inl (ty, N)) (hr : bv_isref ty = false) :
    (bv_ws ad ca n mr mi).set a (ad a, .inl (ca a, N, .inl (upd (mi a) k v))) = bv_ws ad ca n mr (bv_up mi a k v) := by
  apply bv_ws_set _ (fun _ _ => rfl) (fun j hj => bv_up_row hj)
  rw [hs]
  simp only [bv_cell, hr]
  rw [if_neg (by simp)]
  congr 3
  congr 1
  funext j
  by_cases h : j = k <;> simp [bv_up, upd, h]
theorem bv_ws_copy {ad : Nat → Nat} {ca : Nat → ClassId} {n a b sp dp m N : Nat} {ty : FieldType} {mr : bv_Rfs} {mi : bv_Mem} (hs : bv_sh b = .inl (ty, N)) (hr : bv_isref ty = false) :
    (bv_ws ad ca n mr mi).set b (ad b, .inl (ca b, N, .inl (va_cpy (mi a) (mi b) sp dp m))) = bv_ws ad ca n mr (bv_cp mi a b sp dp m) := by
  apply bv_ws_set _ (fun _ _ => rfl) (fun j hj => bv_cp_row hj)
  rw [hs]
  simp only [bv_cell, hr]
  rw [if_neg (by simp)]
  congr 3
  congr 1
  funext j
  by_cases h : dp ≤ j ∧ j < dp + m <;> simp [bv_cp, va_cpy, h]
theorem bv_ws_aast {ad : Nat → Nat} {ca : Nat → ClassId} {n a k N q : Nat} {ty : FieldType} {mr : bv_Rfs} {mi : bv_Mem} (hs : bv_sh a = .inl (ty, N)) (hr : bv_isref ty = true) :
    (bv_ws ad ca n mr mi).set a (ad a, .inl (ca a, N, .inr (.inr (.inr (.inr (va_up (fun j => (mr a j).map ad) k (some (ad q)))))))) = bv_ws ad ca n (bv_upr mr a k (some q)) mi := by
  apply bv_ws_set _ (fun j hj => bv_upr_row hj) (fun _ _ => rfl)
  rw [hs]
  simp only [bv_cell, hr]
  rw [if_pos trivial]
  congr 3
  congr 1
  congr 1
  congr 1
  congr 1
  funext j
  by_cases h : j = k <;> simp [bv_upr, va_up, h]
-- ===== the locals =====
def bv_lv (ad : Nat → Nat) (L : List (Option Value)) : List (Nat × Value) := (List.range L.length).filterMap (fun i => (L.getD i none).map (fun v => (i, bv_cv ad v)))
abbrev bv_L (ad : Nat → Nat) (ls : Array Slot) (nL : Nat) (L : List (Option Value)) : Prop := lv_has ls nL (bv_lv ad L)
theorem bv_lv_mem {ad : Nat → Nat} {L : List (Option Value)} {i : Nat} {w : Value} : (i, w) ∈ bv_lv ad L ↔ ∃ v, L[i]? = some (some v) ∧ w = bv_cv ad v := by
  unfold bv_lv
  rw [List.mem_filterMap]
  constructor
  · rintro ⟨j, hj, h⟩
    cases hx : L.getD j none with
    | none => rw [hx] at h; cases h
    | some v =>
      rw [hx] at h
      have h := Option.some.inj h
      have e1 : j = i := congrArg Prod.fst h
      have e2 : bv_cv ad v = w := congrArg Prod.snd h
      subst e1
      refine ⟨v, ?_, e2.symm⟩
      rw [List.getD_eq_getElem?_getD] at hx
      cases hy : L[j]? with
      | none => rw [hy] at hx; cases hx
      | some z => rw [hy] at hx; exact congrArg some hx
  · rintro ⟨v, hv, rfl⟩
    refine ⟨i, List.mem_range.mpr (List.getElem?_eq_some_iff.mp hv).1, ?_⟩
    rw [List.getD_eq_getElem?_getD, hv]
    rfl
theorem bv_L_at {ad : Nat → Nat} {ls : Array Slot} {nL : Nat} {L : List (Option Value)} (h : bv_L ad ls nL L) {i : Nat} {v : Value} (hv : L[i]? = some (some v)) : ls[i]? = some (.val (bv_cv ad v)) := h.2.2 (i, bv_cv ad v) (bv_lv_mem.mpr ⟨v, hv, rfl⟩)
theorem bv_cv_cat (ad : Nat → Nat) (v : Value) : (bv_cv ad v).category = v.category := by cases v <;> rfl
def bv_nlo (o : Option Value) : Bool := match o with
  | some v => Nat.beq v.category 1
  | none => true
def bv_nl (L : List (Option Value)) (i : Nat) : Bool := match i with
  | 0 => true
  | j + 1 => bv_nlo (L.getD j none)
theorem bv_L_set {ad : Nat → Nat} {ls' : Array Slot} {nL : Nat} {L : List (Option Value)} {i : Nat} {v : Value} (h : lv_has ls' nL ((i, bv_cv ad v) :: (bv_lv ad L).filter (fun q => !(q.1 == i) && !(q.1 + 1 == i && q.2.category == 2)))) (hn : bv_nl L i = true) : bv_L ad ls' nL (L.set i (some v)) := by
  refine ⟨h.1, h.2.1, fun q hq => h.2.2 q ?_⟩
  obtain ⟨j, w⟩ := q
  obtain ⟨u, hu, rfl⟩ := bv_lv_mem.mp hq
  rw [List.getElem?_set] at hu
  by_cases hj : i = j
  · subst hj
    rw [if_pos rfl] at hu
    split at hu
    · cases hu
      exact List.mem_cons_self
    · cases hu
  · rw [if_neg hj] at hu
    refine List.mem_cons_of_mem _ (List.mem_filter.mpr ⟨bv_lv_mem.mpr ⟨u, hu, rfl⟩, ?_⟩)
    have h1 : (j == i) = false := by simpa using fun q => hj q.symm
    rw [h1]
    cases hx : (j + 1 == i) with
    | false => rfl
    | true =>
      have e : i = j + 1 := (by simpa using hx : j + 1 = i).symm
      subst e
      have hn2 : Nat.beq u.category 1 = true := by
        have h3 : bv_nlo (L.getD j none) = true := hn
        rw [List.getD_eq_getElem?_getD, hu] at h3
        exact h3
      rw [bv_cv_cat, Nat.eq_of_beq_eq_true hn2]
      rfl
def bv_en : List Value → Nat → List (Option Value)
  | [], n => List.replicate n none
  | v :: t, n => if Nat.beq v.category 2 = true then some v :: none :: bv_en t (n - 2) else some v :: bv_en t (n - 1)
theorem bv_en_mem (ad : Nat → Nat) : ∀ (av : List Value) (n j i : Nat) (v : Value), (bv_en av n)[i]? = some (some v) → (j + i, bv_cv ad v) ∈ lv_args j (av.map (bv_cv ad)) := by
  intro av
  induction av with
  | nil =>
    intro n j i v h
    have h := List.mem_of_getElem? h
    simp [bv_en, List.mem_replicate] at h
  | cons w t ih =>
    intro n j i v h
    unfold bv_en at h
    simp only [List.map_cons, lv_args, bv_cv_cat]
    by_cases hc : Nat.beq w.category 2 = true
    · have hc2 := Nat.eq_of_beq_eq_true hc
      rw [if_pos hc] at h
      rw [if_pos hc2]
      match i, h with
      | 0, h =>
        simp at h
        subst h
        exact List.mem_cons_self
      | 1, h => simp at h
      | i + 2, h =>
        have h3 := ih _ (j + 2) i v (by simpa using h)
        exact List.mem_cons_of_mem _ (by have e : j + (i + 2) = j + 2 + i := by omega
                                         rw [e]; exact h3)
    · have hc2 : ¬ w.category = 2 := fun q => hc (by rw [q]; rfl)
      rw [if_neg hc] at h
      rw [if_neg hc2]
      match i, h with
      | 0, h =>
        simp at h
        subst h
        exact List.mem_cons_self
      | i + 1, h =>
        have h3 := ih _ (j + 1) i v (by simpa using h)
        exact List.mem_cons_of_mem _ (by have e : j + (i + 1) = j + 1 + i := by omega
                                         rw [e]; exact h3)
