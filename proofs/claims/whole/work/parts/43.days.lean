-- ===== a day =====
/-- the age of a bottle a day later -/
def ag1 (o x : Int32) : Int32 := if o = 0 then bv_min 99 (x + 1) else x
theorem held8 (x : Int32) {n : Nat} (h : x = nI n) (hn : n < 1000) (m : bv_Mem) : f_X8_held (x + 1) 0 99 m = some (bv_min 99 (x + 1)) := by
  subst h
  unfold f_X8_held bv_min
  rw [show nI n + 1 = nI (n + 1) from nI_1 n, if_pos (nI_pos' (by omega))]
  by_cases h : n + 1 ≤ 99
  · have q1 : nI (n + 1) ≤ 99 := nI_le (b := 99) h (by omega)
    rw [if_pos q1]
    by_cases h2 : n + 1 < 99
    · have q2 : nI (n + 1) < 99 := nI_lt (b := 99) h2 (by omega)
      rw [if_pos q2]
    · have e : n + 1 = 99 := by omega
      rw [e]
      rfl
  · have q1 : ¬ nI (n + 1) ≤ 99 := nI_ge (a := 99) (b := n + 1) (by omega) (by omega)
    have q2 : ¬ nI (n + 1) < 99 := nI_nlt (b := 99) (by omega) (by omega)
    rw [if_neg q1, if_neg q2]
/-- the class's memory a day later, with f bottles -/
def d7 (f : Nat) (c : bv_Mem) : bv_Mem := fun a k => if a = 1 ∧ k = 5 then c 1 5 + 1 else if a = 4 ∧ k < 20 then bv_max 0 (c 4 k - 1) else if 14 ≤ a ∧ a < 14 + f ∧ k = 4 then ag1 (c a 5) (c a 4) else c a k
/-- the reference's -/
def d8 (f : Nat) (m : bv_Mem) : bv_Mem := fun a k => if a = 62 then (if k = 0 then m 62 0 + 1 else if 31 ≤ k ∧ k < 51 then (if m 62 k = 0 then m 62 k else m 62 k - 1) else if 51 ≤ k ∧ k < 51 + 6 * f ∧ (k - 51) % 6 = 4 then ag1 (m 62 (k + 1)) (m 62 k) else m 62 k) else m a k
theorem gd_lp {c : bv_Mem} : ∀ (n i fu : Nat) (mi : bv_Mem), i + n = 20 → n < fu → (∀ k, i ≤ k → k < 20 → mi 4 k = c 4 k) → b_X1_growDay_2 fu (nI i) mi = some (bv_set mi 4 (fun k => bv_max 0 (c 4 k - 1)) i 20) := by
  intro n
  induction n with
  | zero =>
    intro i fu mi hi hf _
    obtain ⟨fu, rfl⟩ : ∃ k, fu = k + 1 := ⟨fu - 1, by omega⟩
    have e : i = 20 := by omega
    subst e
    rw [b_X1_growDay_2, if_pos (by decide), bv_set_nil (Nat.le_refl _)]
  | succ n ih =>
    intro i fu mi hi hf he
    obtain ⟨fu, rfl⟩ : ∃ k, fu = k + 1 := ⟨fu - 1, by omega⟩
    have e1 : ¬ (20 : Int32) ≤ nI i := nI_ge (b := 20) (by omega) (by omega)
    have e2 : bv_in (nI i) 20 = true := nb_in (by omega) (by omega)
    rw [b_X1_growDay_2, if_neg e1, if_pos e2, nI_clamp (by omega), show nI i + 1 = nI (i + 1) from nI_1 i, he i (by omega) (by omega), ih (i + 1) fu _ (by omega) (by omega) (fun k h1 h2 => by rw [bv_up_nn (by omega)]; exact he k (by omega) h2)]
    have := bv_set_up (mi := mi) (a := 4) (lo := i) (hi := 20) (f := fun k => bv_max 0 (c 4 k - 1)) (by omega)
    exact congrArg some this
theorem pd_lp {f : Nat} (hf8 : f ≤ 8) : ∀ (n i fu : Nat) (mi : bv_Mem), i + n = f → n < fu → mi 1 4 = nI f → b_X5_passDay_9 fu (nI i) mi = some (bv_up (fun a k => if 14 + i ≤ a ∧ a < 14 + f ∧ k = 4 then ag1 (mi a 5) (mi a 4) else mi a k) 1 5 (mi 1 5 + 1)) := by
  intro n
  induction n with
  | zero =>
    intro i fu mi hi hf e4
    obtain ⟨fu, rfl⟩ : ∃ k, fu = k + 1 := ⟨fu - 1, by omega⟩
    rw [b_X5_passDay_9, e4, if_pos (nI_le (by omega) (by omega))]
    congr 2
    funext a k
    rw [if_neg (by omega)]
  | succ n ih =>
    intro i fu mi hi hf e4
    obtain ⟨fu, rfl⟩ : ∃ k, fu = k + 1 := ⟨fu - 1, by omega⟩
    have e1 : ¬ nI f ≤ nI i := nI_ge (by omega) (by omega)
    have e2 : bv_in (nI i) 8 = true := nb_in (by omega) (by omega)
    obtain ⟨r1, r2⟩ := bo_rf i (by omega)
    rw [b_X5_passDay_9, e4, if_neg e1, if_pos e2, nI_clamp (by omega), bd1 r1, if_pos r2]
    have ha : f_X0_ageDay (14 + i) mi = some (fun a k => if a = 14 + i ∧ k = 4 then ag1 (mi a 5) (mi a 4) else mi a k) := by
      unfold f_X0_ageDay
      rw [if_pos r2]
      by_cases h0 : mi (14 + i) 5 = 0
      · rw [if_pos h0]
        congr 1
        funext a k
        unfold bv_up ag1
        by_cases hq : a = 14 + i ∧ k = 4
        · rw [if_pos hq, if_pos hq, hq.1, if_pos h0]
        · rw [if_neg hq, if_neg hq]
      · rw [if_neg h0]
        congr 1
        funext a k
        unfold ag1
        by_cases hq : a = 14 + i ∧ k = 4
        · rw [if_pos hq, hq.1, hq.2, if_neg h0]
        · rw [if_neg hq]
    rw [bd1 ha, show nI i + 1 = nI (i + 1) from nI_1 i, ih (i + 1) fu _ (by omega) (by omega) (by rw [if_neg (by omega)]; exact e4)]
    congr 1
    funext a k
    unfold bv_up
    have n1 : ¬ ((1 : Nat) = 14 + i ∧ (5 : Nat) = 4) := by omega
    by_cases h1 : a = 1 ∧ k = 5
    · simp only [if_pos h1, if_neg n1]
    · simp only [if_neg h1]
      by_cases h2 : 14 + (i + 1) ≤ a ∧ a < 14 + f ∧ k = 4
      · have n2 : ¬ (a = 14 + i ∧ (5 : Nat) = 4) := by omega
        have n3 : ¬ (a = 14 + i ∧ True) := by omega
        have n5 : 14 + i ≤ a ∧ a < 14 + f ∧ k = 4 := by omega
        rw [if_pos h2, if_neg n2, if_neg n3, if_pos n5]
      · rw [if_neg h2]
        by_cases h3 : a = 14 + i ∧ k = 4
        · rw [if_pos h3, if_pos (by omega)]
        · rw [if_neg h3, if_neg (by omega)]
theorem day7 {f : Nat} {c : bv_Mem} (hf : f ≤ 8) (e4 : c 1 4 = nI f) : f_X5_passDay c = some (d7 f c) := by
  have g : f_X1_growDay c = some (bv_set c 4 (fun k => bv_max 0 (c 4 k - 1)) 0 20) := gd_lp 20 0 400 c (by omega) (by omega) (fun _ _ _ => rfl)
  unfold f_X5_passDay
  rw [bd1 g]
  have := pd_lp hf f 0 400 (bv_set c 4 (fun k => bv_max 0 (c 4 k - 1)) 0 20) (by omega) (by omega) (by rw [bv_set_row (by decide)]; exact e4)
  refine Eq.trans this ?_
  congr 1
  funext a k
  unfold bv_up d7 bv_set
  dsimp only
  by_cases h1 : a = 1 ∧ k = 5
  · rw [if_pos h1, if_pos h1, if_neg (by omega)]
  · rw [if_neg h1, if_neg h1]
    by_cases h2 : 14 + 0 ≤ a ∧ a < 14 + f ∧ k = 4
    · rw [if_pos h2, if_neg (by omega), if_neg (by omega), if_neg (by omega), if_pos (by omega)]
    · rw [if_neg h2]
      by_cases h3 : a = 4 ∧ k < 20
      · rw [if_pos (by omega), if_pos h3]
      · rw [if_neg (by omega), if_neg h3, if_neg (by omega)]
theorem day8_a {m : bv_Mem} : ∀ (n i fu : Nat) (mi : bv_Mem), i + n = 20 → n < fu → (∀ k, 31 + i ≤ k → k < 51 → mi 62 k = m 62 k) → b_X8_day_2 fu (nI i) mi = b_X8_day_41 400 0 (bv_set mi 62 (fun k => if m 62 k = 0 then m 62 k else m 62 k - 1) (31 + i) 51) := by
  intro n
  induction n with
  | zero =>
    intro i fu mi hi hf _
    obtain ⟨fu, rfl⟩ : ∃ k, fu = k + 1 := ⟨fu - 1, by omega⟩
    have e : i = 20 := by omega
    subst e
    rw [b_X8_day_2, if_pos (by decide), bv_set_nil (Nat.le_refl _)]
  | succ n ih =>
    intro i fu mi hi hf he
    obtain ⟨fu, rfl⟩ : ∃ k, fu = k + 1 := ⟨fu - 1, by omega⟩
    have e1 : ¬ (20 : Int32) ≤ nI i := nI_ge (b := 20) (by omega) (by omega)
    have e9 : bv_in (31 + nI i) 371 = true := in_lit (a := 31) (by omega) (by omega)
    have e10 : (31 + nI i).toNatClampNeg = 31 + i := c_lit 31 i (by omega)
    have hs := bv_set_up (mi := mi) (a := 62) (lo := 31 + i) (hi := 51) (f := fun k => if m 62 k = 0 then m 62 k else m 62 k - 1) (by omega)
    have hev := he (31 + i) (by omega) (by omega)
    rw [b_X8_day_2, if_neg e1, if_pos e9, e10, bd1 (ther8 (by omega)), show nI i + 1 = nI (i + 1) from nI_1 i, ← hs]
    have hth : th8 mi i = decide (m 62 (31 + i) = 0) := by
      unfold th8
      rw [hev]
    by_cases h0 : m 62 (31 + i) = 0
    · rw [hth, decide_eq_true h0, if_neg (by decide), hev, Int32.sub_zero, ih (i + 1) fu _ (by omega) (by omega) (fun k h1 h2 => by rw [bv_up_nn (by omega)]; exact he k (by omega) h2)]
      simp [h0]
      rfl
    · rw [hth, decide_eq_false h0, if_pos (by decide), hev, ih (i + 1) fu _ (by omega) (by omega) (fun k h1 h2 => by rw [bv_up_nn (by omega)]; exact he k (by omega) h2)]
      simp [h0]
      rfl
theorem of8 {b k : Nat} (hb : b < 8) (hk : k < 6) (m : bv_Mem) : f_X8_of (nI b) (nI k) m = some (m 62 (51 + 6 * b + k)) := by
  have e : (51 : Int32) + 6 * nI b + nI k = nI (51 + 6 * b + k) := by
    rw [show (51 : Int32) = nI 51 from rfl, show (6 : Int32) = nI 6 from rfl, pk_mul, nI_add, nI_add]
  unfold f_X8_of
  rw [e, if_pos (nb_in (by omega) (by omega)), nI_clamp (by omega)]
theorem lay8 {b k : Nat} {v : Int32} (hb : b < 8) (hk : k < 6) (m : bv_Mem) : f_X8_lay (nI b) (nI k) v m = some (bv_up m 62 (51 + 6 * b + k) v) := by
  have e : (51 : Int32) + 6 * nI b + nI k = nI (51 + 6 * b + k) := by
    rw [show (51 : Int32) = nI 51 from rfl, show (6 : Int32) = nI 6 from rfl, pk_mul, nI_add, nI_add]
  unfold f_X8_lay
  rw [e, if_pos (nb_in (by omega) (by omega)), nI_clamp (by omega)]
theorem day8_b {f : Nat} (hf8 : f ≤ 8) : ∀ (n i fu : Nat) (mi : bv_Mem), i + n = f → n < fu → mi 62 3 = nI f → (∀ b, b < 8 → ∃ v, v ≤ 99 ∧ mi 62 (51 + 6 * b + 4) = nI v) → b_X8_day_41 fu (nI i) mi = some (bv_up (fun a k => if a = 62 ∧ 51 + 6 * i ≤ k ∧ k < 51 + 6 * f ∧ (k - 51) % 6 = 4 then ag1 (mi 62 (k + 1)) (mi 62 k) else mi a k) 62 0 (mi 62 0 + 1)) := by
  intro n
  induction n with
  | zero =>
    intro i fu mi hi hf e3 _
    obtain ⟨fu, rfl⟩ : ∃ k, fu = k + 1 := ⟨fu - 1, by omega⟩
    rw [b_X8_day_41, e3, if_pos (nI_le (by omega) (by omega))]
    congr 2
    funext a k
    rw [if_neg (by omega)]
  | succ n ih =>
    intro i fu mi hi hf e3 hage
    obtain ⟨fu, rfl⟩ : ∃ k, fu = k + 1 := ⟨fu - 1, by omega⟩
    have e1 : ¬ nI f ≤ nI i := nI_ge (by omega) (by omega)
    obtain ⟨v, hv, ev⟩ := hage i (by omega)
    have o5 : f_X8_of (nI i) 5 mi = some (mi 62 (51 + 6 * i + 5)) := of8 (k := 5) (by omega) (by omega) mi
    have o4 : f_X8_of (nI i) 4 mi = some (mi 62 (51 + 6 * i + 4)) := of8 (k := 4) (by omega) (by omega) mi
    rw [b_X8_day_41, e3, if_neg e1, bd1 o5, show nI i + 1 = nI (i + 1) from nI_1 i]
    have fin : ∀ M : bv_Mem, (M = fun a k => if a = 62 ∧ k = 51 + 6 * i + 4 then ag1 (mi 62 (k + 1)) (mi 62 k) else mi a k) → b_X8_day_41 fu (nI (i + 1)) M = some (bv_up (fun a k => if a = 62 ∧ 51 + 6 * i ≤ k ∧ k < 51 + 6 * f ∧ (k - 51) % 6 = 4 then ag1 (mi 62 (k + 1)) (mi 62 k) else mi a k) 62 0 (mi 62 0 + 1)) := by
      intro M hM
      rw [ih (i + 1) fu M (by omega) (by omega) (by rw [hM]; dsimp only; rw [if_neg (by omega)]; exact e3) (by
        intro b hb
        rw [hM]
        dsimp only
        by_cases hbi : b = i
        · subst hbi
          rw [if_pos (by omega)]
          unfold ag1
          rw [ev]
          by_cases h0 : mi 62 (51 + 6 * b + 4 + 1) = 0
          · rw [if_pos h0]
            unfold bv_min
            rw [show nI v + 1 = nI (v + 1) from nI_1 v]
            by_cases h9 : nI (v + 1) < 99
            · rw [if_pos h9]
              have h9' : nI (v + 1) < nI 99 := h9
              exact ⟨v + 1, by have := (nI_ltI (a := v + 1) (b := 99) (by omega) (by omega)).mp h9'; omega, rfl⟩
            · rw [if_neg h9]
              exact ⟨99, by omega, rfl⟩
          · rw [if_neg h0]
            exact ⟨v, hv, rfl⟩
        · rw [if_neg (by omega)]
          exact hage b hb)]
      rw [hM]
      congr 1
      funext a k
      unfold bv_up
      dsimp only
      by_cases h1 : a = 62 ∧ k = 0
      · rw [if_pos h1, if_pos h1, if_neg (by omega)]
      · rw [if_neg h1, if_neg h1]
        by_cases h2 : a = 62 ∧ 51 + 6 * (i + 1) ≤ k ∧ k < 51 + 6 * f ∧ (k - 51) % 6 = 4
        · have n1 : ¬ ((62 : Nat) = 62 ∧ k + 1 = 51 + 6 * i + 4) := by omega
          have n2 : ¬ ((62 : Nat) = 62 ∧ k = 51 + 6 * i + 4) := by omega
          rw [if_pos h2, if_neg n1, if_neg n2, if_pos (by omega)]
        · rw [if_neg h2]
          by_cases h3 : a = 62 ∧ k = 51 + 6 * i + 4
          · rw [if_pos h3, if_pos (by omega)]
          · rw [if_neg h3, if_neg (by omega)]
    by_cases h0 : mi 62 (51 + 6 * i + 5) = 0
    · rw [if_pos h0, bd1 o4, bd1 (held8 _ ev (by omega) mi)]
      have ly : f_X8_lay (nI i) 4 (bv_min 99 (mi 62 (51 + 6 * i + 4) + 1)) mi = some (bv_up mi 62 (51 + 6 * i + 4) (bv_min 99 (mi 62 (51 + 6 * i + 4) + 1))) := lay8 (k := 4) (by omega) (by omega) mi
      rw [bd1 ly]
      apply fin
      funext a k
      unfold bv_up ag1
      by_cases h3 : a = 62 ∧ k = 51 + 6 * i + 4
      · rw [if_pos h3, if_pos h3, h3.2, if_pos h0]
      · rw [if_neg h3, if_neg h3]
    · rw [if_neg h0]
      apply fin
      funext a k
      unfold ag1
      by_cases h3 : a = 62 ∧ k = 51 + 6 * i + 4
      · rw [if_pos h3, h3.1, h3.2, if_neg h0]
      · rw [if_neg h3]
theorem day8 {f : Nat} {m : bv_Mem} (hf : f ≤ 8) (e3 : m 62 3 = nI f) (hage : ∀ b, b < 8 → ∃ v, v ≤ 99 ∧ m 62 (51 + 6 * b + 4) = nI v) : f_X8_day m = some (d8 f m) := by
  have a1 := day8_a (m := m) 20 0 400 m (by omega) (by omega) (fun _ _ _ => rfl)
  have a2 := day8_b hf f 0 400 (bv_set m 62 (fun k => if m 62 k = 0 then m 62 k else m 62 k - 1) (31 + 0) 51) (by omega) (by omega) (by rw [bv_set_out (by omega)]; exact e3) (fun b hb => by rw [bv_set_out (by omega)]; exact hage b hb)
  unfold f_X8_day
  refine Eq.trans a1 (Eq.trans a2 ?_)
  congr 1
  funext a k
  unfold bv_up d8 bv_set
  dsimp only
  by_cases ha : a = 62
  · subst ha
    rw [if_pos rfl]
    by_cases h1 : k = 0
    · rw [if_pos ⟨rfl, h1⟩, if_pos h1, if_neg (by omega)]
    · rw [if_neg (fun q => h1 q.2), if_neg h1]
      by_cases h2 : 31 ≤ k ∧ k < 51
      · rw [if_neg (by omega), if_pos (by omega), if_pos h2]
      · rw [if_neg h2]
        by_cases h3 : 51 ≤ k ∧ k < 51 + 6 * f ∧ (k - 51) % 6 = 4
        · rw [if_pos (by omega), if_pos h3, if_neg (by omega), if_neg (by omega)]
        · rw [if_neg (by omega), if_neg h3, if_neg (by omega)]
  · rw [if_neg (fun q => ha q.1), if_neg (fun q => ha q.1), if_neg (fun q => ha q.1), if_neg ha]
