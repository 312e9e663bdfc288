-- ===== the cells once all are made: refs are a table, but for the Reader's tape =====
def bv_RT : List (List (Option Nat)) := [[some 1, some 22, none, some 43, some 47, some 49, some 50, some 51, some 52],
  [some 2, some 5, none, some 6, none, none, none, some 7, some 9, some 11, some 13, none], [some 3, some 4], [], [], [], [some 14, some 15, some 16, some 17, some 18, some 19, some 20, some 21], [some 8, none], [], [some 10, none], [], [some 12, none], [], [], [], [], [], [], [], [], [], [],
  [some 23, some 26, none, some 27, none, none, none, some 28, some 30, some 32, some 34, none], [some 24, some 25], [], [], [], [some 35, some 36, some 37, some 38, some 39, some 40, some 41, some 42], [some 29, none], [], [some 31, none], [], [some 33, none], [], [], [], [], [], [], [], [], [], [],
  [none, none, some 46, none, none, none], [some 45, none], [], [], [some 48, none, none, none, none], [], [some 53, some 55, some 57, some 59], [], [], [], [none, none, some 54], [], [none, none, some 56], [], [none, none, some 58], [], [none, none, some 60], [],
  [some 62, some 63, some 64, none, some 65, some 66, some 67, some 68, some 69, none, none, none, none, none, some 70, none, some 71, some 72, some 73], [], [], [], [], [], [], [], [], [], [], [], []]
def bv_RF (a k : Nat) : Option Nat := (bv_RT.getD a []).getD k none
def bv_mr (mi : bv_Mem) : bv_Rfs := fun a k => match Nat.beq a 43 && Nat.beq k 0 with
  | true => some (mi 43 0).toNatClampNeg
  | false => bv_RF a k
def bv_x0 (i : Nat) : Int32 := ([104, 115, 100, 107, 108, 97] : List Int32).getD i 0
def bv_x1 (i : Nat) : Int32 := ([0, 0, 0, 0, 1, 2, 3] : List Int32).getD i 0
def bv_x2 (i : Nat) : Int32 := ([10, 11, 12, 13, 20, 0, 0, 0, 0, 30, 0, 0, 0, 0, 40, 0, 0, 0, 0, 50, 0, 60, 0, 0, 0, 0, 70, 71] : List Int32).getD i 0
def bv_X0 : bv_Xt := fun j => match j with
  | 0 => some (.char, 6, bv_x0)
  | 1 => some (.int, 7, bv_x1)
  | 2 => some (.int, 28, bv_x2)
  | _ => none
theorem bv_mr_RF {mi : bv_Mem} {a k : Nat} (h : a ≠ 43) : bv_mr mi a k = bv_RF a k := by
  unfold bv_mr
  have : Nat.beq a 43 = false := by
    cases hx : Nat.beq a 43 with
    | false => rfl
    | true => exact absurd (Nat.eq_of_beq_eq_true hx) h
  rw [this]
  rfl
theorem bv_mr_same {mi mi' : bv_Mem} (h : mi' 43 0 = mi 43 0) : bv_mr mi' = bv_mr mi := by
  funext a k
  unfold bv_mr
  rw [h]
theorem bv_sh43 : bv_sh 43 = .inr 2 := rfl
def bv_QP (z : Int32) (mi : bv_Mem) : Option Value → bv_Rfs → bv_Mem → Prop := fun r mr' mi' => r = some (.int z) ∧ mr' = bv_mr mi' ∧ mi' = mi
def bv_QI (z : Int32 × bv_Mem) : Option Value → bv_Rfs → bv_Mem → Prop := fun r mr' mi' => r = some (.int z.1) ∧ mr' = bv_mr mi' ∧ mi' = z.2
def bv_QV (z : bv_Mem) : Option Value → bv_Rfs → bv_Mem → Prop := fun r mr' mi' => r = none ∧ mr' = bv_mr mi' ∧ mi' = z
def bv_QR (z : Nat) (mi : bv_Mem) : Option Value → bv_Rfs → bv_Mem → Prop := fun r mr' mi' => r = some (.ref z) ∧ mr' = bv_mr mi' ∧ mi' = mi
theorem bv_gd {c : Prop} [Decidable c] {α : Type} {x : Option α} {z : α} (h : (if c then x else none) = some z) : c ∧ x = some z := by
  by_cases hc : c
  · rw [if_pos hc] at h; exact ⟨hc, h⟩
  · rw [if_neg hc] at h; cases h
theorem bv_tt {c : Prop} [Decidable c] {α : Type} {x y z : α} (hc : c) (h : (if c then x else y) = z) : x = z := by rw [if_pos hc] at h; exact h
theorem bv_ff {c : Prop} [Decidable c] {α : Type} {x y z : α} (hc : ¬ c) (h : (if c then x else y) = z) : y = z := by rw [if_neg hc] at h; exact h
theorem bv_bd {α β : Type} {o : Option α} {f : α → Option β} {z : β} (h : o.bind f = some z) : ∃ a, o = some a ∧ f a = some z := Option.bind_eq_some_iff.mp h
/-- fewer locals known -/
def bv_le : List (Option Value) → List (Option Value) → Prop
  | [], _ => True
  | none :: t, _ :: u => bv_le t u
  | some v :: t, o :: u => o = some v ∧ bv_le t u
  | _ :: _, [] => False
theorem bv_le_at : ∀ {L' L : List (Option Value)}, bv_le L' L → ∀ (i : Nat) (v : Value), L'[i]? = some (some v) → L[i]? = some (some v) := by
  intro L'
  induction L' with
  | nil => intro L _ i v h; simp at h
  | cons o t ih =>
    intro L h i v hv
    cases L with
    | nil => cases o <;> exact absurd h (by simp [bv_le])
    | cons o2 u =>
      match i with
      | 0 =>
        simp only [List.getElem?_cons_zero] at hv ⊢
        cases o with
        | none => cases hv
        | some w => cases hv; exact congrArg some h.1
      | i + 1 =>
        simp only [List.getElem?_cons_succ] at hv ⊢
        cases o with
        | none => exact ih (L := u) h i v hv
        | some w => exact ih (L := u) h.2 i v hv
theorem bv_sw {x : Int32} {lo hi : Int} (N : Nat) (hN : hi = lo + N - 1) (h : ∀ j : Nat, j < N → ¬ x = Int32.ofInt (lo + j)) : x.toInt < lo ∨ hi < x.toInt := by
  rcases Int.lt_or_le x.toInt lo with h1 | h1
  · exact Or.inl h1
  · rcases Int.lt_or_le hi x.toInt with h2 | h2
    · exact Or.inr h2
    · exfalso
      have h3 := h (x.toInt - lo).toNat (by omega)
      apply h3
      have e : lo + ((x.toInt - lo).toNat : Int) = x.toInt := by omega
      rw [e, Int32.ofInt_toInt]
theorem bv_lo {ps : List (Int × Int)} {d : Int} {x : Int32} (h : ∀ q ∈ ps, ¬ q.1 = x.toInt) : Op.lookupswitch.offset ps d x.toInt = d := by
  induction ps with
  | nil => rfl
  | cons q r ih =>
    obtain ⟨a, o⟩ := q
    have h1 : ¬ a = x.toInt := h (a, o) List.mem_cons_self
    rw [Op.lookupswitch.offset, if_neg h1]
    exact ih (fun q hq => h q (List.mem_cons_of_mem _ hq))
theorem bv_ne {x y : Int32} {a : Int} (h : ¬ x = y) (ha : y.toInt = a) : ¬ a = x.toInt := fun q => h (Int32.toInt_inj.mp (by rw [← q, ha]))
theorem pn_X : ∀ ci, ci < 9 → plainName (bv_R ci) = true := by decide +kernel
section RULES4
variable {M : bv_M} {X : bv_Xt} {d n0 n1 : Nat} {Q : Option Value → bv_Rfs → bv_Mem → Prop} {pc : Nat} {L L' : List (Option Value)} {st : List Value} {n : Nat} {mr : bv_Rfs} {mi : bv_Mem}
theorem ev_weak (h : bv_le L' L) (k : bv_Ev M X d n0 n1 Q pc L' st n mr mi) : bv_Ev M X d n0 n1 Q pc L st n mr mi :=
  fun l p e R s m args below meth c H locs ad0 ad ca0 ca D hC hR hag hW ls hl => k l p e R s m args below meth c H locs ad0 ad ca0 ca D hC hR hag hW ls ⟨hl.1, hl.2.1, fun q hq => by
    obtain ⟨i, w⟩ := q
    obtain ⟨v, hv, rfl⟩ := bv_lv_mem.mp hq
    exact bv_L_at hl (bv_le_at h i v hv)⟩
theorem er_putI {a ci k idx : Nat} {v : Int32} (hf : bv_FL M.1 idx ci k) (hd : decode M.2.1 pc = .ok (.putfield idx, 3)) (hg : bv_isC 74 a ci = true) (hr : bv_isref (bv_fty ci k) = false) (hfin : (bv_T ci k).2.2.2 = false) (hv : bv_fit (bv_fty ci k) v = true) (kk : bv_Ev M X d 74 74 Q (pc + 3) L st 74 (bv_mr (bv_up mi a k v)) (bv_up mi a k v)) : bv_Ev M X d 74 74 Q pc L (.int v :: .ref a :: st) 74 (bv_mr mi) mi := by
  refine ev_putI hf hd hg hr hfin hv ?_
  rwa [bv_mr_same (mi := mi)] at kk
  unfold bv_up
  rw [if_neg]
  rintro ⟨h1, h2⟩
  have h3 := (bv_isC_spec hg).2
  rw [← h1, bv_sh43] at h3
  have h4 : 2 = ci := Sum.inr.inj h3
  subst h4
  subst h2
  exact absurd hr (by decide)
theorem er_putT {idx q : Nat} (hf : bv_FL M.1 idx 2 0) (hd : decode M.2.1 pc = .ok (.putfield idx, 3)) (hq : bv_isC 74 q 4 = true) (kk : bv_Ev M X d 74 74 Q (pc + 3) L st 74 (bv_mr (bv_up mi 43 0 (Int32.ofNat q))) (bv_up mi 43 0 (Int32.ofNat q))) : bv_Ev M X d 74 74 Q pc L (.ref q :: .ref 43 :: st) 74 (bv_mr mi) mi := by
  have hlt := (bv_isC_spec hq).1
  refine ev_putR (ci := 2) (k := 0) hf hd (by decide) (by decide) rfl hlt ?_
  have e : bv_upr (bv_mr mi) 43 0 (some q) = bv_mr (bv_up mi 43 0 (Int32.ofNat q)) := by
    funext a k
    unfold bv_upr bv_mr
    by_cases h : a = 43 ∧ k = 0
    · obtain ⟨rfl, rfl⟩ := h
      simp [bv_up, nI_clamp (n := q) (by omega), show Int32.ofNat q = nI q from rfl]
    · rw [if_neg h]
      have hb : (Nat.beq a 43 && Nat.beq k 0) = false := by
        cases hx : (Nat.beq a 43 && Nat.beq k 0) with
        | false => rfl
        | true =>
          rw [Bool.and_eq_true] at hx
          exact absurd ⟨Nat.eq_of_beq_eq_true hx.1, Nat.eq_of_beq_eq_true hx.2⟩ h
      rw [hb]
  rw [e]
  have e2 : bv_Ev M X d 74 74 Q (pc + 3) L st 74 (bv_mr (bv_up mi 43 0 (Int32.ofNat q))) mi = bv_Ev M X d 74 74 Q (pc + 3) L st 74 (bv_mr (bv_up mi 43 0 (Int32.ofNat q))) (bv_up mi 43 0 (Int32.ofNat q)) := by
    have hw : ∀ (ad : Nat → Nat) (ca : Nat → ClassId) (mr : bv_Rfs), bv_ws ad ca 74 mr (bv_up mi 43 0 (Int32.ofNat q)) = bv_ws ad ca 74 mr mi := by
      intro ad ca mr
      unfold bv_ws
      apply List.map_congr_left
      intro k hk
      by_cases hk3 : k = 43
      · subst hk3
        rw [bv_sh43]
        simp only [bv_cell]
        have hj : ∀ j, (if bv_isref (bv_fty 2 j) = true then va_rf ((mr 43 j).map ad) else Value.int (bv_up mi 43 0 (Int32.ofNat q) 43 j)) = (if bv_isref (bv_fty 2 j) = true then va_rf ((mr 43 j).map ad) else Value.int (mi 43 j)) := by
          intro j
          by_cases hj0 : j = 0
          · subst hj0
            rw [if_pos (by decide), if_pos (by decide)]
          · simp [bv_up, hj0]
        simp only [hj]
      · rw [bv_cell_other (mr' := mr) rfl (bv_up_row hk3)]
    unfold bv_Ev bv_W
    simp only [hw]
  rw [e2]
  exact kk
theorem bv_arr43 {a kd N : Nat} (hg : bv_isA 74 a kd N = true) : a ≠ 43 := by
  rintro rfl
  exact absurd hg (by simp [bv_isA, bv_sh43])
theorem er_iast {a N : Nat} {i v : Int32} (hd : decode M.2.1 pc = .ok (.iastore, 1)) (hg : bv_isA 74 a 0 N = true) (hi : bv_in i N = true) (kk : bv_Ev M X d 74 74 Q (pc + 1) L st 74 (bv_mr (bv_up mi a i.toNatClampNeg v)) (bv_up mi a i.toNatClampNeg v)) : bv_Ev M X d 74 74 Q pc L (.int v :: .int i :: .ref a :: st) 74 (bv_mr mi) mi := by
  refine ev_iast hd hg hi ?_
  rwa [bv_mr_same (mi := mi)] at kk
  exact bv_up_ne (fun h => bv_arr43 hg h.symm)
theorem er_bast {a N : Nat} {i v : Int32} (hd : decode M.2.1 pc = .ok (.bastore, 1)) (hg : bv_isA 74 a 1 N = true) (hi : bv_in i N = true) (kk : bv_Ev M X d 74 74 Q (pc + 1) L st 74 (bv_mr (bv_up mi a i.toNatClampNeg v.toInt8.toInt32)) (bv_up mi a i.toNatClampNeg v.toInt8.toInt32)) : bv_Ev M X d 74 74 Q pc L (.int v :: .int i :: .ref a :: st) 74 (bv_mr mi) mi := by
  refine ev_bast hd hg hi ?_
  rwa [bv_mr_same (mi := mi)] at kk
  exact bv_up_ne (fun h => bv_arr43 hg h.symm)
def bv_cpok (mi : bv_Mem) (kd a b N0 N1 : Nat) (sp dp m : Int32) : Bool := (!(decide (sp < 0)) && !(decide (dp < 0)) && !(decide (m < 0)) && decide (sp.toNatClampNeg + m.toNatClampNeg ≤ N0) && decide (dp.toNatClampNeg + m.toNatClampNeg ≤ N1)) && (Nat.beq kd 0 || (List.range m.toNatClampNeg).all (fun i => fits .byte (.int (mi a (sp.toNatClampNeg + i)))))
theorem er_copy {a b kd N0 N1 idx : Nat} {sp dp m : Int32} (hd : decode M.2.1 pc = .ok (.invokestatic idx, 3)) (hlk : Cond.methodLink M.1 idx arraycopyName ∈ lw_tbl) (hkd : kd < 2) (hg0 : bv_isA 74 a kd N0 = true) (hg1 : bv_isA 74 b kd N1 = true) (hok : bv_cpok mi kd a b N0 N1 sp dp m = true) (hdp : 1 ≤ d) (hst : (st.map fun v => v.category).sum ≤ 8)
    (kk : bv_Ev M X d 74 74 Q (pc + 3) L st 74 (bv_mr (bv_cp mi a b sp.toNatClampNeg dp.toNatClampNeg m.toNatClampNeg)) (bv_cp mi a b sp.toNatClampNeg dp.toNatClampNeg m.toNatClampNeg)) : bv_Ev M X d 74 74 Q pc L (.int m :: .int dp :: .ref b :: .int sp :: .ref a :: st) 74 (bv_mr mi) mi := by
  unfold bv_cpok at hok
  simp only [Bool.and_eq_true, Bool.not_eq_true', decide_eq_false_iff_not, decide_eq_true_eq, Bool.or_eq_true] at hok
  obtain ⟨⟨⟨⟨⟨h1, h2⟩, h3⟩, h4⟩, h5⟩, h6⟩ := hok
  refine ev_copy hd hlk (by decide +kernel) (by decide +kernel) (by decide +kernel) hkd hg0 hg1 h1 h2 h3 h4 h5 ?_ hdp hst ?_
  · intro e i hi
    subst e
    rcases h6 with h6 | h6
    · exact absurd h6 (by decide)
    · exact List.all_eq_true.mp h6 i (List.mem_range.mpr hi)
  · rwa [bv_mr_same (mi := mi)] at kk
    unfold bv_cp
    rw [if_neg]
    intro h
    exact bv_arr43 hg1 h.1.symm
theorem er_ialdk {a N : Nat} {i : Int32} (k : Nat) (hd : decode M.2.1 pc = .ok (.iaload, 1)) (hg : bv_isA n a 0 N = true) (hi : bv_in i N = true) (hk : i.toNatClampNeg = k) (kk : bv_Ev M X d n0 n1 Q (pc + 1) L (.int (mi a k) :: st) n mr mi) : bv_Ev M X d n0 n1 Q pc L (.int i :: .ref a :: st) n mr mi :=
  ev_iald hd hg hi (by rw [hk]; exact kk)
theorem er_iastk {a N : Nat} {i v : Int32} (k : Nat) (hd : decode M.2.1 pc = .ok (.iastore, 1)) (hg : bv_isA 74 a 0 N = true) (hi : bv_in i N = true) (hk : i.toNatClampNeg = k) (kk : bv_Ev M X d 74 74 Q (pc + 1) L st 74 (bv_mr (bv_up mi a k v)) (bv_up mi a k v)) : bv_Ev M X d 74 74 Q pc L (.int v :: .int i :: .ref a :: st) 74 (bv_mr mi) mi :=
  er_iast hd hg hi (by rw [hk]; exact kk)
theorem er_getRq {a ci k idx : Nat} (q : Nat) (hf : bv_FL M.1 idx ci k) (hd : decode M.2.1 pc = .ok (.getfield idx, 3)) (hg : bv_isC 74 a ci = true) (hr : bv_isref (bv_fty ci k) = true) (hc : Nat.beq ci 2 = false) (hq : bv_RF a k = some q) (kk : bv_Ev M X d n0 n1 Q (pc + 3) L (.ref q :: st) 74 (bv_mr mi) mi) : bv_Ev M X d n0 n1 Q pc L (.ref a :: st) 74 (bv_mr mi) mi := by
  refine ev_getR q hf hd hg hr ?_ kk
  rw [bv_mr_RF]
  · exact hq
  · rintro rfl
    have h3 := (bv_isC_spec hg).2
    rw [bv_sh43] at h3
    have h4 : 2 = ci := Sum.inr.inj h3
    subst h4
    exact absurd hc (by decide)
theorem er_aald {a N : Nat} {i : Int32} (q : Nat) (hd : decode M.2.1 pc = .ok (.aaload, 1)) (hg : bv_isA 74 a 2 N = true) (hi : bv_in i N = true) (hq : bv_RF a i.toNatClampNeg = some q) (kk : bv_Ev M X d n0 n1 Q (pc + 1) L (.ref q :: st) 74 (bv_mr mi) mi) : bv_Ev M X d n0 n1 Q pc L (.int i :: .ref a :: st) 74 (bv_mr mi) mi := by
  refine ev_aald q hd hg hi ?_ kk
  rw [bv_mr_RF (bv_arr43 hg)]
  exact hq
theorem er_VP {d' idx na : Nat} {ci a : Nat} {y : MethodName} {M' : bv_M} {st0 : List Value} {z : Int32} (As : List Value) (hX : ∀ j v, bv_X0 j = some v → X j = some v) (lk : bv_LV M.1 idx ci y M' na) (hd : decode M.2.1 pc = .ok (.invokevirtual idx, 3)) (hst : st0 = As.reverse ++ .ref a :: st) (hna : As.length = na) (hg : bv_isC 74 a ci = true) (hdd : Nat.ble (d' + 1) d = true) (hcat : Nat.ble ((st.map fun v => v.category).sum) 8 = true) (hM : bv_Met y M' bv_X0 d' 74 74 (.ref a :: As) (bv_mr mi) mi (bv_QP z mi)) (k : bv_Ev M X d n0 n1 Q (pc + 3) L (.int z :: st) 74 (bv_mr mi) mi) (h0 : n0 ≤ 74 := by decide) (h1 : 74 ≤ n1 := by decide) : bv_Ev M X d n0 n1 Q pc L st0 74 (bv_mr mi) mi :=
  ev_callV As lk hd hst hna hg hX hM (Nat.le_of_ble_eq_true hdd) (Nat.le_of_ble_eq_true hcat) h0 (Nat.le_refl 74) h1 (Or.inl rfl) (fun r mr' mi' hq => by
    obtain ⟨rfl, rfl, rfl⟩ := hq
    exact k)
theorem er_VI {d' idx na : Nat} {ci a : Nat} {y : MethodName} {M' : bv_M} {st0 : List Value} {z : Int32 × bv_Mem} (As : List Value) (hX : ∀ j v, bv_X0 j = some v → X j = some v) (lk : bv_LV M.1 idx ci y M' na) (hd : decode M.2.1 pc = .ok (.invokevirtual idx, 3)) (hst : st0 = As.reverse ++ .ref a :: st) (hna : As.length = na) (hg : bv_isC 74 a ci = true) (hdd : Nat.ble (d' + 1) d = true) (hcat : Nat.ble ((st.map fun v => v.category).sum) 8 = true) (hM : bv_Met y M' bv_X0 d' 74 74 (.ref a :: As) (bv_mr mi) mi (bv_QI z)) (k : bv_Ev M X d n0 n1 Q (pc + 3) L (.int z.1 :: st) 74 (bv_mr z.2) z.2) (h0 : n0 ≤ 74 := by decide) (h1 : 74 ≤ n1 := by decide) : bv_Ev M X d n0 n1 Q pc L st0 74 (bv_mr mi) mi :=
  ev_callV As lk hd hst hna hg hX hM (Nat.le_of_ble_eq_true hdd) (Nat.le_of_ble_eq_true hcat) h0 (Nat.le_refl 74) h1 (Or.inl rfl) (fun r mr' mi' hq => by
    obtain ⟨rfl, rfl, rfl⟩ := hq
    exact k)
theorem er_VV {d' idx na : Nat} {ci a : Nat} {y : MethodName} {M' : bv_M} {st0 : List Value} {z : bv_Mem} (As : List Value) (hX : ∀ j v, bv_X0 j = some v → X j = some v) (lk : bv_LV M.1 idx ci y M' na) (hd : decode M.2.1 pc = .ok (.invokevirtual idx, 3)) (hst : st0 = As.reverse ++ .ref a :: st) (hna : As.length = na) (hg : bv_isC 74 a ci = true) (hdd : Nat.ble (d' + 1) d = true) (hcat : Nat.ble ((st.map fun v => v.category).sum) 8 = true) (hM : bv_Met y M' bv_X0 d' 74 74 (.ref a :: As) (bv_mr mi) mi (bv_QV z)) (k : bv_Ev M X d n0 n1 Q (pc + 3) L ( st) 74 (bv_mr z) z) (h0 : n0 ≤ 74 := by decide) (h1 : 74 ≤ n1 := by decide) : bv_Ev M X d n0 n1 Q pc L st0 74 (bv_mr mi) mi :=
  ev_callV As lk hd hst hna hg hX hM (Nat.le_of_ble_eq_true hdd) (Nat.le_of_ble_eq_true hcat) h0 (Nat.le_refl 74) h1 (Or.inl rfl) (fun r mr' mi' hq => by
    obtain ⟨rfl, rfl, rfl⟩ := hq
    exact k)
theorem er_VR {d' idx na : Nat} {ci a : Nat} {y : MethodName} {M' : bv_M} {st0 : List Value} {z : Nat} (As : List Value) (hX : ∀ j v, bv_X0 j = some v → X j = some v) (lk : bv_LV M.1 idx ci y M' na) (hd : decode M.2.1 pc = .ok (.invokevirtual idx, 3)) (hst : st0 = As.reverse ++ .ref a :: st) (hna : As.length = na) (hg : bv_isC 74 a ci = true) (hdd : Nat.ble (d' + 1) d = true) (hcat : Nat.ble ((st.map fun v => v.category).sum) 8 = true) (hM : bv_Met y M' bv_X0 d' 74 74 (.ref a :: As) (bv_mr mi) mi (bv_QR z mi)) (k : bv_Ev M X d n0 n1 Q (pc + 3) L (.ref z :: st) 74 (bv_mr mi) mi) (h0 : n0 ≤ 74 := by decide) (h1 : 74 ≤ n1 := by decide) : bv_Ev M X d n0 n1 Q pc L st0 74 (bv_mr mi) mi :=
  ev_callV As lk hd hst hna hg hX hM (Nat.le_of_ble_eq_true hdd) (Nat.le_of_ble_eq_true hcat) h0 (Nat.le_refl 74) h1 (Or.inl rfl) (fun r mr' mi' hq => by
    obtain ⟨rfl, rfl, rfl⟩ := hq
    exact k)
theorem er_SP {d' idx na : Nat} {y : MethodName} {M' : bv_M} {st0 : List Value} {z : Int32} (As : List Value) (hX : ∀ j v, bv_X0 j = some v → X j = some v) (lk : bv_LS M.1 idx y M' na) (hd : decode M.2.1 pc = .ok (.invokestatic idx, 3)) (hst : st0 = As.reverse ++ st) (hna : As.length = na) (hdd : Nat.ble (d' + 1) d = true) (hcat : Nat.ble ((st.map fun v => v.category).sum) 8 = true) (hM : bv_Met y M' bv_X0 d' 74 74 As (bv_mr mi) mi (bv_QP z mi)) (k : bv_Ev M X d n0 n1 Q (pc + 3) L (.int z :: st) 74 (bv_mr mi) mi) (h0 : n0 ≤ 74 := by decide) (h1 : 74 ≤ n1 := by decide) : bv_Ev M X d n0 n1 Q pc L st0 74 (bv_mr mi) mi :=
  ev_callS As lk hd hst hna hX hM (Nat.le_of_ble_eq_true hdd) (Nat.le_of_ble_eq_true hcat) h0 (Nat.le_refl 74) h1 (Or.inl rfl) (fun r mr' mi' hq => by
    obtain ⟨rfl, rfl, rfl⟩ := hq
    exact k)
theorem er_SI {d' idx na : Nat} {y : MethodName} {M' : bv_M} {st0 : List Value} {z : Int32 × bv_Mem} (As : List Value) (hX : ∀ j v, bv_X0 j = some v → X j = some v) (lk : bv_LS M.1 idx y M' na) (hd : decode M.2.1 pc = .ok (.invokestatic idx, 3)) (hst : st0 = As.reverse ++ st) (hna : As.length = na) (hdd : Nat.ble (d' + 1) d = true) (hcat : Nat.ble ((st.map fun v => v.category).sum) 8 = true) (hM : bv_Met y M' bv_X0 d' 74 74 As (bv_mr mi) mi (bv_QI z)) (k : bv_Ev M X d n0 n1 Q (pc + 3) L (.int z.1 :: st) 74 (bv_mr z.2) z.2) (h0 : n0 ≤ 74 := by decide) (h1 : 74 ≤ n1 := by decide) : bv_Ev M X d n0 n1 Q pc L st0 74 (bv_mr mi) mi :=
  ev_callS As lk hd hst hna hX hM (Nat.le_of_ble_eq_true hdd) (Nat.le_of_ble_eq_true hcat) h0 (Nat.le_refl 74) h1 (Or.inl rfl) (fun r mr' mi' hq => by
    obtain ⟨rfl, rfl, rfl⟩ := hq
    exact k)
theorem er_SV {d' idx na : Nat} {y : MethodName} {M' : bv_M} {st0 : List Value} {z : bv_Mem} (As : List Value) (hX : ∀ j v, bv_X0 j = some v → X j = some v) (lk : bv_LS M.1 idx y M' na) (hd : decode M.2.1 pc = .ok (.invokestatic idx, 3)) (hst : st0 = As.reverse ++ st) (hna : As.length = na) (hdd : Nat.ble (d' + 1) d = true) (hcat : Nat.ble ((st.map fun v => v.category).sum) 8 = true) (hM : bv_Met y M' bv_X0 d' 74 74 As (bv_mr mi) mi (bv_QV z)) (k : bv_Ev M X d n0 n1 Q (pc + 3) L ( st) 74 (bv_mr z) z) (h0 : n0 ≤ 74 := by decide) (h1 : 74 ≤ n1 := by decide) : bv_Ev M X d n0 n1 Q pc L st0 74 (bv_mr mi) mi :=
  ev_callS As lk hd hst hna hX hM (Nat.le_of_ble_eq_true hdd) (Nat.le_of_ble_eq_true hcat) h0 (Nat.le_refl 74) h1 (Or.inl rfl) (fun r mr' mi' hq => by
    obtain ⟨rfl, rfl, rfl⟩ := hq
    exact k)
theorem er_SR {d' idx na : Nat} {y : MethodName} {M' : bv_M} {st0 : List Value} {z : Nat} (As : List Value) (hX : ∀ j v, bv_X0 j = some v → X j = some v) (lk : bv_LS M.1 idx y M' na) (hd : decode M.2.1 pc = .ok (.invokestatic idx, 3)) (hst : st0 = As.reverse ++ st) (hna : As.length = na) (hdd : Nat.ble (d' + 1) d = true) (hcat : Nat.ble ((st.map fun v => v.category).sum) 8 = true) (hM : bv_Met y M' bv_X0 d' 74 74 As (bv_mr mi) mi (bv_QR z mi)) (k : bv_Ev M X d n0 n1 Q (pc + 3) L (.ref z :: st) 74 (bv_mr mi) mi) (h0 : n0 ≤ 74 := by decide) (h1 : 74 ≤ n1 := by decide) : bv_Ev M X d n0 n1 Q pc L st0 74 (bv_mr mi) mi :=
  ev_callS As lk hd hst hna hX hM (Nat.le_of_ble_eq_true hdd) (Nat.le_of_ble_eq_true hcat) h0 (Nat.le_refl 74) h1 (Or.inl rfl) (fun r mr' mi' hq => by
    obtain ⟨rfl, rfl, rfl⟩ := hq
    exact k)
theorem er_SNP {d' idx na : Nat} {y : MethodName} {M' : bv_M} {st0 : List Value} {z : Int32} (As : List Value) (hX : ∀ j v, bv_X0 j = some v → X j = some v) (lk : bv_LSN M.1 idx y M' na) (hd : decode M.2.1 pc = .ok (.invokestatic idx, 3)) (hst : st0 = As.reverse ++ st) (hna : As.length = na) (hdd : Nat.ble (d' + 1) d = true) (hcat : Nat.ble ((st.map fun v => v.category).sum) 8 = true) (hM : bv_Met y M' bv_X0 d' 74 74 As (bv_mr mi) mi (bv_QP z mi)) (k : bv_Ev M X d n0 n1 Q (pc + 3) L (.int z :: st) 74 (bv_mr mi) mi) (h0 : n0 ≤ 74 := by decide) (h1 : 74 ≤ n1 := by decide) : bv_Ev M X d n0 n1 Q pc L st0 74 (bv_mr mi) mi :=
  ev_callSN As lk hd hst hna hX hM (Nat.le_of_ble_eq_true hdd) (Nat.le_of_ble_eq_true hcat) h0 (Nat.le_refl 74) h1 (Or.inl rfl) (fun r mr' mi' hq => by
    obtain ⟨rfl, rfl, rfl⟩ := hq
    exact k)
theorem er_SNI {d' idx na : Nat} {y : MethodName} {M' : bv_M} {st0 : List Value} {z : Int32 × bv_Mem} (As : List Value) (hX : ∀ j v, bv_X0 j = some v → X j = some v) (lk : bv_LSN M.1 idx y M' na) (hd : decode M.2.1 pc = .ok (.invokestatic idx, 3)) (hst : st0 = As.reverse ++ st) (hna : As.length = na) (hdd : Nat.ble (d' + 1) d = true) (hcat : Nat.ble ((st.map fun v => v.category).sum) 8 = true) (hM : bv_Met y M' bv_X0 d' 74 74 As (bv_mr mi) mi (bv_QI z)) (k : bv_Ev M X d n0 n1 Q (pc + 3) L (.int z.1 :: st) 74 (bv_mr z.2) z.2) (h0 : n0 ≤ 74 := by decide) (h1 : 74 ≤ n1 := by decide) : bv_Ev M X d n0 n1 Q pc L st0 74 (bv_mr mi) mi :=
  ev_callSN As lk hd hst hna hX hM (Nat.le_of_ble_eq_true hdd) (Nat.le_of_ble_eq_true hcat) h0 (Nat.le_refl 74) h1 (Or.inl rfl) (fun r mr' mi' hq => by
    obtain ⟨rfl, rfl, rfl⟩ := hq
    exact k)
theorem er_SNV {d' idx na : Nat} {y : MethodName} {M' : bv_M} {st0 : List Value} {z : bv_Mem} (As : List Value) (hX : ∀ j v, bv_X0 j = some v → X j = some v) (lk : bv_LSN M.1 idx y M' na) (hd : decode M.2.1 pc = .ok (.invokestatic idx, 3)) (hst : st0 = As.reverse ++ st) (hna : As.length = na) (hdd : Nat.ble (d' + 1) d = true) (hcat : Nat.ble ((st.map fun v => v.category).sum) 8 = true) (hM : bv_Met y M' bv_X0 d' 74 74 As (bv_mr mi) mi (bv_QV z)) (k : bv_Ev M X d n0 n1 Q (pc + 3) L ( st) 74 (bv_mr z) z) (h0 : n0 ≤ 74 := by decide) (h1 : 74 ≤ n1 := by decide) : bv_Ev M X d n0 n1 Q pc L st0 74 (bv_mr mi) mi :=
  ev_callSN As lk hd hst hna hX hM (Nat.le_of_ble_eq_true hdd) (Nat.le_of_ble_eq_true hcat) h0 (Nat.le_refl 74) h1 (Or.inl rfl) (fun r mr' mi' hq => by
    obtain ⟨rfl, rfl, rfl⟩ := hq
    exact k)
theorem er_SNR {d' idx na : Nat} {y : MethodName} {M' : bv_M} {st0 : List Value} {z : Nat} (As : List Value) (hX : ∀ j v, bv_X0 j = some v → X j = some v) (lk : bv_LSN M.1 idx y M' na) (hd : decode M.2.1 pc = .ok (.invokestatic idx, 3)) (hst : st0 = As.reverse ++ st) (hna : As.length = na) (hdd : Nat.ble (d' + 1) d = true) (hcat : Nat.ble ((st.map fun v => v.category).sum) 8 = true) (hM : bv_Met y M' bv_X0 d' 74 74 As (bv_mr mi) mi (bv_QR z mi)) (k : bv_Ev M X d n0 n1 Q (pc + 3) L (.ref z :: st) 74 (bv_mr mi) mi) (h0 : n0 ≤ 74 := by decide) (h1 : 74 ≤ n1 := by decide) : bv_Ev M X d n0 n1 Q pc L st0 74 (bv_mr mi) mi :=
  ev_callSN As lk hd hst hna hX hM (Nat.le_of_ble_eq_true hdd) (Nat.le_of_ble_eq_true hcat) h0 (Nat.le_refl 74) h1 (Or.inl rfl) (fun r mr' mi' hq => by
    obtain ⟨rfl, rfl, rfl⟩ := hq
    exact k)
def bv_max (x y : Int32) : Int32 := if x < y then y else x
def bv_min (x y : Int32) : Int32 := if y < x then y else x
def bv_abs (x : Int32) : Int32 := if 0 ≤ x then x else 0 - x
theorem er_max {idx : Nat} {x y : Int32} (hd : decode M.2.1 pc = .ok (.invokestatic idx, 3)) (hlk : Cond.methodLink M.1 idx Lib.Math.max.name ∈ lw_tbl) (hdp : Nat.ble 1 d = true) (hst : Nat.ble ((st.map fun v => v.category).sum) 8 = true) (kk : bv_Ev M X d 74 74 Q (pc + 3) L (.int (bv_max x y) :: st) 74 mr mi) : bv_Ev M X d 74 74 Q pc L (.int y :: .int x :: st) 74 mr mi := by
  intro l p e R s m args below meth c H locs ad0 ad ca0 ca D hC hR hag hW ls hl
  have h1 := Nat.le_of_ble_eq_true hdp
  have h2 := Nat.le_of_ble_eq_true hst
  exact va_mmax hC.1 hC.2.1 (hC.2.2.1.trans hl.1.symm) hC.2.2.2.1 (hC.2.2.2.2.1 _ hlk rfl) (hC.2.2.2.2.1 _ (by decide +kernel) rfl) (hC.2.2.2.2.1 _ (by decide +kernel) rfl) (hC.2.2.2.2.1 _ (by decide +kernel) rfl) (Nat.le_trans h1 hR.1) (by rw [bv_cat_sum]; have h9 := hR.2.2.2; omega) (Nat.zero_le _) (by rw [Nat.sub_self]; exact Nat.zero_le _) hd (kk l p e R s m args below meth c H locs ad0 ad ca0 ca D hC hR hag hW ls hl)
theorem er_min {idx : Nat} {x y : Int32} (hd : decode M.2.1 pc = .ok (.invokestatic idx, 3)) (hlk : Cond.methodLink M.1 idx Lib.Math.min.name ∈ lw_tbl) (hdp : Nat.ble 1 d = true) (hst : Nat.ble ((st.map fun v => v.category).sum) 8 = true) (kk : bv_Ev M X d 74 74 Q (pc + 3) L (.int (bv_min x y) :: st) 74 mr mi) : bv_Ev M X d 74 74 Q pc L (.int y :: .int x :: st) 74 mr mi := by
  intro l p e R s m args below meth c H locs ad0 ad ca0 ca D hC hR hag hW ls hl
  have h1 := Nat.le_of_ble_eq_true hdp
  have h2 := Nat.le_of_ble_eq_true hst
  exact va_mmin hC.1 hC.2.1 (hC.2.2.1.trans hl.1.symm) hC.2.2.2.1 (hC.2.2.2.2.1 _ hlk rfl) (hC.2.2.2.2.1 _ (by decide +kernel) rfl) (hC.2.2.2.2.1 _ (by decide +kernel) rfl) (hC.2.2.2.2.1 _ (by decide +kernel) rfl) (Nat.le_trans h1 hR.1) (by rw [bv_cat_sum]; have h9 := hR.2.2.2; omega) (Nat.zero_le _) (by rw [Nat.sub_self]; exact Nat.zero_le _) hd (kk l p e R s m args below meth c H locs ad0 ad ca0 ca D hC hR hag hW ls hl)
theorem er_abs {idx : Nat} {x : Int32} (hd : decode M.2.1 pc = .ok (.invokestatic idx, 3)) (hlk : Cond.methodLink M.1 idx Lib.Math.abs.name ∈ lw_tbl) (hdp : Nat.ble 1 d = true) (hst : Nat.ble ((st.map fun v => v.category).sum) 8 = true) (kk : bv_Ev M X d 74 74 Q (pc + 3) L (.int (bv_abs x) :: st) 74 mr mi) : bv_Ev M X d 74 74 Q pc L (.int x :: st) 74 mr mi := by
  intro l p e R s m args below meth c H locs ad0 ad ca0 ca D hC hR hag hW ls hl
  have h1 := Nat.le_of_ble_eq_true hdp
  have h2 := Nat.le_of_ble_eq_true hst
  exact va_mabs hC.1 hC.2.1 (hC.2.2.1.trans hl.1.symm) hC.2.2.2.1 (hC.2.2.2.2.1 _ hlk rfl) (hC.2.2.2.2.1 _ (by decide +kernel) rfl) (hC.2.2.2.2.1 _ (by decide +kernel) rfl) (hC.2.2.2.2.1 _ (by decide +kernel) rfl) (Nat.le_trans h1 hR.1) (by rw [bv_cat_sum]; have h9 := hR.2.2.2; omega) (Nat.zero_le _) (by rw [Nat.sub_self]; exact Nat.zero_le _) hd (kk l p e R s m args below meth c H locs ad0 ad ca0 ca D hC hR hag hW ls hl)
end RULES4
