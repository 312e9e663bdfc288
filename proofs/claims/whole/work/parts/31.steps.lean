theorem i_lt {a b : Int32} : a < b ↔ a.toInt < b.toInt := Int32.lt_iff_toInt_lt
theorem i_le {a b : Int32} : a ≤ b ↔ a.toInt ≤ b.toInt := Int32.le_iff_toInt_le
theorem i_nlt {a b : Int32} : ¬ a < b ↔ b ≤ a := by rw [i_lt, i_le]; omega
theorem i_nle {a b : Int32} : ¬ a ≤ b ↔ b < a := by rw [i_lt, i_le]; omega
theorem win7 (a b c : Int32) (mi : bv_Mem) : f_X7_isWithin a b c mi = some (if b ≤ a ∧ a ≤ c then 1 else 0) := by
  unfold f_X7_isWithin
  by_cases h1 : a < b
  · rw [if_pos h1, if_neg (fun h => (i_nlt.mpr h.1) h1)]
  · rw [if_neg h1]
    by_cases h2 : c < a
    · rw [if_pos h2, if_neg (fun h => (i_nlt.mpr h.2) h2)]
    · rw [if_neg h2, if_pos ⟨i_nlt.mp h1, i_nlt.mp h2⟩]
theorem win8 (a b c : Int32) (mi : bv_Mem) : f_X8_in a b c mi = some (if b ≤ a ∧ a ≤ c then 1 else 0) := by
  unfold f_X8_in
  by_cases h1 : a < b
  · rw [if_pos h1, if_neg (fun h => (i_nlt.mpr h.1) h1)]
  · rw [if_neg h1]
    by_cases h2 : c < a
    · rw [if_pos h2, if_neg (fun h => (i_nlt.mpr h.2) h2)]
    · rw [if_neg h2, if_pos ⟨i_nlt.mp h1, i_nlt.mp h2⟩]
theorem w_bool {c : Prop} [Decidable c] : (if (if c then (1 : Int32) else 0) = 0 ∨ (if c then (1 : Int32) else 0) = 1 then some (if c then (1 : Int32) else 0) else none) = some (if c then 1 else 0) := by
  by_cases h : c <;> simp [h]
theorem pl7 (p : Int32) (mi : bv_Mem) : f_X7_isPlace p mi = some (if 0 ≤ p ∧ p ≤ 19 then 1 else 0) := by
  unfold f_X7_isPlace
  rw [win7]
  exact w_bool
theorem pl8 (p : Int32) (mi : bv_Mem) : f_X8_isPlace p mi = some (if 0 ≤ p ∧ p ≤ 19 then 1 else 0) := by
  unfold f_X8_isPlace
  rw [win8]
  exact w_bool
theorem vl7 (p : Int32) (mi : bv_Mem) : f_X7_isVillage p mi = some (if 0 ≤ p ∧ p ≤ mi 1 2 - 1 then 1 else 0) := by
  unfold f_X7_isVillage
  rw [win7]
  exact w_bool
theorem vl8 (p : Int32) (mi : bv_Mem) : f_X8_isVillage p mi = some (if 0 ≤ p ∧ p ≤ mi 62 2 - 1 then 1 else 0) := by
  unfold f_X8_isVillage
  rw [win8]
  exact w_bool
theorem bo7 (p : Int32) (mi : bv_Mem) : f_X7_isBottle p mi = some (if 0 ≤ p ∧ p ≤ mi 1 4 - 1 then 1 else 0) := by
  unfold f_X7_isBottle
  rw [win7]
  exact w_bool
theorem bo8 (p : Int32) (mi : bv_Mem) : f_X8_isBottle p mi = some (if 0 ≤ p ∧ p ≤ mi 62 3 - 1 then 1 else 0) := by
  unfold f_X8_isBottle
  rw [win8]
  exact w_bool
theorem km7 (p : Int32) (mi : bv_Mem) : f_X7_isKindWithNumber p mi = some (if 0 ≤ p ∧ p ≤ 69 then 1 else 0) := by
  unfold f_X7_isKindWithNumber
  rw [win7]
  exact w_bool
theorem km8 (p : Int32) (mi : bv_Mem) : f_X8_isKm p mi = some (if 0 ≤ p ∧ p ≤ 69 then 1 else 0) := by
  unfold f_X8_isKm
  rw [win8]
  exact w_bool
theorem sp7 (p : Int32) (mi : bv_Mem) : f_X7_isSomePlaces p mi = some (if 1 ≤ p ∧ p ≤ 1048575 then 1 else 0) := by
  unfold f_X7_isSomePlaces
  rw [win7]
  exact w_bool
theorem sh7 (p : Int32) (mi : bv_Mem) : f_X7_isSheet p mi = some (if 0 ≤ p ∧ p ≤ 3 then 1 else 0) := by
  unfold f_X7_isSheet
  rw [win7]
  exact w_bool
theorem sh8 (p : Int32) (mi : bv_Mem) : f_X8_isSheet p mi = some (if 0 ≤ p ∧ p ≤ 3 then 1 else 0) := by
  unfold f_X8_isSheet
  rw [win8]
  exact w_bool
theorem sd7 (p : Int32) (mi : bv_Mem) : f_X7_isSide p mi = some (if 0 ≤ p ∧ p ≤ 1 then 1 else 0) := by
  unfold f_X7_isSide
  by_cases h : p = 0
  · subst h; rfl
  · rw [if_neg h]
    by_cases h1 : p = 1
    · subst h1; rfl
    · rw [if_neg h1, if_neg]
      rintro ⟨g1, g2⟩
      obtain ⟨j, hj, rfl⟩ := nI_of2 (M := 1) (n := 1) rfl (i_nlt.mpr g1) g2
      match j, hj with
      | 0, _ => exact h rfl
      | 1, _ => exact h1 rfl
theorem us7 (p : Int32) (mi : bv_Mem) : f_X7_isUse p mi = some (if 0 ≤ p ∧ p ≤ 1 then 1 else 0) := by
  unfold f_X7_isUse
  by_cases h : p = 0
  · subst h; rfl
  · rw [if_neg h]
    by_cases h1 : p = 1
    · subst h1; rfl
    · rw [if_neg h1, if_neg]
      rintro ⟨g1, g2⟩
      obtain ⟨j, hj, rfl⟩ := nI_of2 (M := 1) (n := 1) rfl (i_nlt.mpr g1) g2
      match j, hj with
      | 0, _ => exact h rfl
      | 1, _ => exact h1 rfl
/-- a number between 0 and a told one -/
theorem n_of {p M : Int32} {n : Nat} (h : 0 ≤ p ∧ p ≤ M) (hM : M.toInt = n) : ∃ j, j ≤ n ∧ p = nI j := nI_of2 hM (i_nlt.mpr h.1) h.2
/-- a number between 0 and one less than a told one -/
theorem n_of1 {p : Int32} {n : Nat} (h : 0 ≤ p ∧ p ≤ nI n - 1) (hn : n < 1000000) : ∃ j, j < n ∧ p = nI j := by
  obtain ⟨h1, h2⟩ := h
  have e : (nI n - 1).toInt = (n : Int) - 1 := by
    have := pk_sub_toInt (a := n) (b := 1) (by omega) (by omega)
    exact this
  rw [i_le] at h1 h2
  rw [e] at h2
  have h3 : (0 : Int32).toInt = 0 := rfl
  rw [h3] at h1
  obtain ⟨j, hj, rfl⟩ := nI_of (x := p) (by rw [i_lt, h3]; omega)
  rw [nI_toInt hj] at h2
  exact ⟨j, by omega, rfl⟩
theorem n_in1 {j n : Nat} (h : j < n) (hn : n < 1000000) : 0 ≤ nI j ∧ nI j ≤ nI n - 1 := by
  have e : (nI n - 1).toInt = (n : Int) - 1 := pk_sub_toInt (a := n) (b := 1) (by omega) (by omega)
  refine ⟨nI_pos' (by omega), ?_⟩
  rw [i_le, e, nI_toInt (by omega)]
  omega
theorem n_in {j n : Nat} {M : Int32} (h : j ≤ n) (hM : M.toInt = n) (hn : n < 2 ^ 31) : 0 ≤ nI j ∧ nI j ≤ M := by
  refine ⟨nI_pos' (by omega), ?_⟩
  rw [i_le, hM, nI_toInt (by omega)]
  omega
theorem bv_up_nn {mi : bv_Mem} {a k a' k' : Nat} {v : Int32} (h : a' ≠ a ∨ k' ≠ k) : bv_up mi a k v a' k' = mi a' k' := by
  unfold bv_up
  rw [if_neg (by omega)]
theorem bv_up_eq {mi : bv_Mem} {a k : Nat} {v : Int32} : bv_up mi a k v a k = v := by
  unfold bv_up
  rw [if_pos ⟨rfl, rfl⟩]
-- ===== one slot of the Town and of the row =====
def bt_cor (a s k b : Nat) : Prop := (a = 1 ∧ s = 5 ∧ k = 0) ∨ (a = 1 ∧ s = 6 ∧ k = 1) ∨ (a = 1 ∧ s = 2 ∧ k = 2) ∨ (a = 1 ∧ s = 4 ∧ k = 3) ∨ (a = 7 ∧ s = 1 ∧ k = 4) ∨ (a = 1 ∧ s = 11 ∧ k = 5) ∨ (a = 5 ∧ s < 5 ∧ k = 6 + s) ∨ (a = 3 ∧ s < 20 ∧ k = 11 + s) ∨ (a = 4 ∧ s < 20 ∧ k = 31 + s) ∨ (b < 8 ∧ a = 14 + b ∧ s < 6 ∧ k = 51 + 6 * b + s) ∨ (a = 13 ∧ s < 20 ∧ k = 149 + s)
theorem cor_up {c m : bv_Mem} {a s k a' s' k' : Nat} {v : Int32} (h : k' = k ↔ (a' = a ∧ s' = s)) (e : m 62 k' = c a' s') : bv_up m 62 k v 62 k' = bv_up c a s v a' s' := by
  unfold bv_up
  by_cases h1 : k' = k
  · rw [if_pos ⟨rfl, h1⟩, if_pos (h.mp h1)]
  · rw [if_neg (fun q => h1 q.2), if_neg (fun q => h1 (h.mpr q))]
    exact e
theorem R_up {c m : bv_Mem} {a s k b : Nat} {v : Int32} (hc : bt_cor a s k b) (h : bt_R 1 62 c m) : bt_R 1 62 (bv_up c a s v) (bv_up m 62 k v) := by
  unfold bt_cor at hc
  obtain ⟨⟨g1, g2, g3, g4, g5, g6⟩, h2, h3, h4, h5, h6, h7, h8, h9⟩ := h
  refine ⟨⟨cor_up (by omega) g1, cor_up (by omega) g2, cor_up (by omega) g3, cor_up (by omega) g4, cor_up (by omega) g5, cor_up (by omega) g6⟩, fun i hi => cor_up (by omega) (h2 i hi), fun i hi => cor_up (by omega) (h3 i hi), fun i hi => cor_up (by omega) (h4 i hi), fun b' hb i hi => cor_up (by omega) (h5 b' hb i hi), fun i hi => ?_, fun i hi => cor_up (by omega) (h7 i hi), ?_, ?_⟩
  · rw [bv_up_nn (Or.inr (by omega)), bv_up_nn (Or.inl (by omega))]
    exact h6 i hi
  · have e1 : bv_up c a s v (1 + 9) = c (1 + 9) := bv_up_row (by omega)
    have e2 : bv_up c a s v (1 + 8) 1 = c (1 + 8) 1 := bv_up_nn (Or.inl (by omega))
    have e3 : (fun j => bv_up m 62 k v 62 (169 + j)) = fun j => m 62 (169 + j) := funext fun j => bv_up_nn (Or.inr (by omega))
    rw [e1, e2, e3]
    exact h8
  · have e1 : bv_up c a s v (1 + 11) = c (1 + 11) := bv_up_row (by omega)
    have e2 : bv_up c a s v (1 + 10) 1 = c (1 + 10) 1 := bv_up_nn (Or.inl (by omega))
    have e3 : (fun j => bv_up m 62 k v 62 (270 + j)) = fun j => m 62 (270 + j) := funext fun j => bv_up_nn (Or.inr (by omega))
    rw [e1, e2, e3]
    exact h9
/-- v may stand in slot s of cell a -/
def bt_ok (a s : Nat) (v : Int32) : Prop := (a = 1 → s = 2 → ∃ n, n ≤ 5 ∧ v = nI n) ∧ (a = 1 → s = 4 → ∃ n, n ≤ 8 ∧ v = nI n) ∧ (a = 1 → s = 5 → ∃ n, n ≤ 9999 ∧ v = nI n) ∧ (a = 7 → s = 1 → ∃ n, n ≤ 50 ∧ v = nI n) ∧ (a = 1 → s = 11 → ∃ n, n ≤ 20 ∧ v = nI n) ∧ (a = 5 → ∃ n, n < 20 ∧ v = nI n) ∧ (a = 3 → ∃ n, n ≤ 20 ∧ v = nI n) ∧ (a = 4 → ∃ n, n ≤ 99 ∧ v = nI n) ∧ (14 ≤ a → a < 22 → (s = 0 → ∃ n, n < 7 ∧ v = nI n) ∧ (s = 1 → ∃ n, n < 10 ∧ v = nI n) ∧ (s = 2 → ∃ n, n < 20 ∧ v = nI n) ∧ (s = 3 → ∃ n, n < 1048576 ∧ v = nI n) ∧ (s = 4 → ∃ n, n ≤ 99 ∧ v = nI n) ∧ (s = 5 → ∃ n, n ≤ 1 ∧ v = nI n)) ∧ (a = 8 ∨ a = 10 ∨ a = 12 → bt_by v)
theorem ok_up {c : bv_Mem} {a s a' s' : Nat} {v : Int32} {P : Int32 → Prop} (h : a' = a → s' = s → P v) (e : P (c a' s')) : P (bv_up c a s v a' s') := by
  unfold bv_up
  by_cases h1 : a' = a ∧ s' = s
  · rw [if_pos h1]; exact h h1.1 h1.2
  · rw [if_neg h1]; exact e
theorem W_up {c : bv_Mem} {a s : Nat} {v : Int32} (ho : bt_ok a s v) (h : bt_W 1 c) : bt_W 1 (bv_up c a s v) := by
  obtain ⟨o1, o2, o3, o4, o5, o6, o7, o8, o9, o10⟩ := ho
  obtain ⟨⟨g1, g2, g3, g4, g5⟩, h2, h3, h4, h5, h6⟩ := h
  refine ⟨⟨ok_up (P := fun x => ∃ n, n ≤ 5 ∧ x = nI n) (fun q1 q2 => o1 q1.symm q2.symm) g1, ok_up (P := fun x => ∃ n, n ≤ 8 ∧ x = nI n) (fun q1 q2 => o2 q1.symm q2.symm) g2, ok_up (P := fun x => ∃ n, n ≤ 9999 ∧ x = nI n) (fun q1 q2 => o3 q1.symm q2.symm) g3, ok_up (P := fun x => ∃ n, n ≤ 50 ∧ x = nI n) (fun q1 q2 => o4 q1.symm q2.symm) g4, ok_up (P := fun x => ∃ n, n ≤ 20 ∧ x = nI n) (fun q1 q2 => o5 q1.symm q2.symm) g5⟩, fun i hi => ok_up (P := fun x => ∃ n, n < 20 ∧ x = nI n) (fun q1 _ => o6 q1.symm) (h2 i hi), fun i hi => ok_up (P := fun x => ∃ n, n ≤ 20 ∧ x = nI n) (fun q1 _ => o7 q1.symm) (h3 i hi), fun i hi => ok_up (P := fun x => ∃ n, n ≤ 99 ∧ x = nI n) (fun q1 _ => o8 q1.symm) (h4 i hi), fun b hb => ?_, fun i hi => ?_⟩
  · obtain ⟨k1, k2, k3, k4, k5, k6⟩ := h5 b hb
    exact ⟨ok_up (P := fun x => ∃ n, n < 7 ∧ x = nI n) (fun q1 q2 => (o9 (by omega) (by omega)).1 q2.symm) k1, ok_up (P := fun x => ∃ n, n < 10 ∧ x = nI n) (fun q1 q2 => (o9 (by omega) (by omega)).2.1 q2.symm) k2, ok_up (P := fun x => ∃ n, n < 20 ∧ x = nI n) (fun q1 q2 => (o9 (by omega) (by omega)).2.2.1 q2.symm) k3, ok_up (P := fun x => ∃ n, n < 1048576 ∧ x = nI n) (fun q1 q2 => (o9 (by omega) (by omega)).2.2.2.1 q2.symm) k4, ok_up (P := fun x => ∃ n, n ≤ 99 ∧ x = nI n) (fun q1 q2 => (o9 (by omega) (by omega)).2.2.2.2.1 q2.symm) k5, ok_up (P := fun x => ∃ n, n ≤ 1 ∧ x = nI n) (fun q1 q2 => (o9 (by omega) (by omega)).2.2.2.2.2 q2.symm) k6⟩
  · obtain ⟨k1, k2, k3⟩ := h6 i hi
    exact ⟨ok_up (P := bt_by) (fun q1 q2 => o10 (by omega)) k1, ok_up (P := bt_by) (fun q1 q2 => o10 (by omega)) k2, ok_up (P := bt_by) (fun q1 q2 => o10 (by omega)) k3⟩
/-- the Town and the row may change, as long as they go together -/
theorem J_town {c m c' m' : bv_Mem} (h : bv_J c m) (h7 : ∀ a, a < 1 ∨ 22 ≤ a → c' a = c a) (h8 : ∀ a, a ≠ 62 → m' a = m a) (hW : bt_W 1 c') (hR : bt_R 1 62 c' m') : bv_J c' m' := by
  obtain ⟨-, h3, h5, h6, h9⟩ := h
  exact ⟨⟨hW, hR⟩, h3.cg (by rw [h7 0 (by omega)]) (by rw [h8 61 (by omega)]) (fun a g1 g2 => h7 a (by omega)) (h8 63 (by omega)), h5.cg (h7 50 (by omega)) (h8 65 (by omega)), h6.cg (fun a g1 g2 => h7 a (by omega)) (fun a g1 g2 => h8 a (by omega)), h9.cg (by rw [h7 47 (by omega)]) (by rw [h8 61 (by omega)]) (h7 48 (by omega)) (h8 70 (by omega))⟩
theorem J_up {c m : bv_Mem} {a s k : Nat} {v : Int32} (b : Nat) (hc : bt_cor a s k b) (ho : bt_ok a s v) (h : bv_J c m) : bv_J (bv_up c a s v) (bv_up m 62 k v) := by
  have hc2 := hc
  unfold bt_cor at hc2
  exact J_town h (fun x hx => bv_up_row (by omega)) (fun x hx => bv_up_row hx) (W_up ho h.1.1) (R_up hc h.1.2)
theorem bt_s8.cong {m m' : bv_Mem} (h : bt_s8 m m') (a k : Nat) (v : Int32) : bt_s8 (bv_up m a k v) (bv_up m' a k v) := by
  intro x j hx hs
  unfold bv_up
  split
  · rfl
  · exact h x j hx hs
theorem bt_s7.cong {m m' : bv_Mem} (h : bt_s7 m m') (a k : Nat) (v : Int32) : bt_s7 (bv_up m a k v) (bv_up m' a k v) := by
  intro x j hx hs
  unfold bv_up
  split
  · rfl
  · exact h x j hx hs
/-- one slot each -/
theorem I_up {mi : bv_Mem} {a s k : Nat} {v : Int32} (b : Nat) (hc : bt_cor a s k b) (ho : bt_ok a s v) (h : bv_I mi) : bv_I (bv_up (bv_up mi a s v) 62 k v) := by
  have hc2 := hc
  unfold bt_cor at hc2
  exact (J_up (v := v) b hc ho h).same ((bt_s7.rf _).up (Or.inr (by decide))) (((bt_s8.rf mi).up (Or.inr (by omega))).cong 62 k v)
theorem ok_height {p n : Nat} (h : n ≤ 20) : bt_ok 3 p (nI n) := by
  refine ⟨fun q => absurd q (by decide), fun q => absurd q (by decide), fun q => absurd q (by decide), fun q => absurd q (by decide), fun q => absurd q (by decide), fun q => absurd q (by decide), fun _ => ⟨n, h, rfl⟩, fun q => absurd q (by decide), fun q => absurd q (by decide), fun q => absurd q (by decide)⟩
theorem ok_miss {p n : Nat} (h : n ≤ 99) : bt_ok 4 p (nI n) := by
  refine ⟨fun q => absurd q (by decide), fun q => absurd q (by decide), fun q => absurd q (by decide), fun q => absurd q (by decide), fun q => absurd q (by decide), fun q => absurd q (by decide), fun q => absurd q (by decide), fun _ => ⟨n, h, rfl⟩, fun q => absurd q (by decide), fun q => absurd q (by decide)⟩
theorem ok_home {p n : Nat} (h : n < 20) : bt_ok 5 p (nI n) := by
  refine ⟨fun q => absurd q (by decide), fun q => absurd q (by decide), fun q => absurd q (by decide), fun q => absurd q (by decide), fun q => absurd q (by decide), fun _ => ⟨n, h, rfl⟩, fun q => absurd q (by decide), fun q => absurd q (by decide), fun q => absurd q (by decide), fun q => absurd q (by decide)⟩
theorem ok_wait {p : Nat} {v : Int32} : bt_ok 13 p v := by
  refine ⟨fun q => absurd q (by decide), fun q => absurd q (by decide), fun q => absurd q (by decide), fun q => absurd q (by decide), fun q => absurd q (by decide), fun q => absurd q (by decide), fun q => absurd q (by decide), fun q => absurd q (by decide), fun q => absurd q (by decide), fun q => absurd q (by decide)⟩
theorem ok_town {s : Nat} {v : Int32} (h2 : s = 2 → ∃ n, n ≤ 5 ∧ v = nI n) (h4 : s = 4 → ∃ n, n ≤ 8 ∧ v = nI n) (h5 : s = 5 → ∃ n, n ≤ 9999 ∧ v = nI n) (h11 : s = 11 → ∃ n, n ≤ 20 ∧ v = nI n) : bt_ok 1 s v := by
  refine ⟨fun _ => h2, fun _ => h4, fun _ => h5, fun q => absurd q (by decide), fun _ => h11, fun q => absurd q (by decide), fun q => absurd q (by decide), fun q => absurd q (by decide), fun q => absurd q (by decide), fun q => absurd q (by decide)⟩
theorem ok_bot {b s : Nat} {v : Int32} (hb : b < 8) (h : (s = 0 → ∃ n, n < 7 ∧ v = nI n) ∧ (s = 1 → ∃ n, n < 10 ∧ v = nI n) ∧ (s = 2 → ∃ n, n < 20 ∧ v = nI n) ∧ (s = 3 → ∃ n, n < 1048576 ∧ v = nI n) ∧ (s = 4 → ∃ n, n ≤ 99 ∧ v = nI n) ∧ (s = 5 → ∃ n, n ≤ 1 ∧ v = nI n)) : bt_ok (14 + b) s v := by
  refine ⟨fun q => absurd q (by omega), fun q => absurd q (by omega), fun q => absurd q (by omega), fun q => absurd q (by omega), fun q => absurd q (by omega), fun q => absurd q (by omega), fun q => absurd q (by omega), fun q => absurd q (by omega), fun _ _ => h, fun q => absurd q (by omega)⟩
