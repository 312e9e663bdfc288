/-- all that a Town has, from the Town t to the Town u -/
def bt_cp (t u : Nat) (c c' : bv_Mem) : Prop :=
  (∀ a, a < u ∨ u + 21 ≤ a → c' a = c a) ∧ (c' u 2 = c t 2 ∧ c' u 4 = c t 4 ∧ c' u 5 = c t 5 ∧ c' u 6 = c t 6 ∧ c' u 11 = c t 11) ∧
  (∀ k, k < 20 → c' (u + 2) k = c (t + 2) k) ∧ (∀ k, k < 20 → c' (u + 3) k = c (t + 3) k) ∧ (∀ k, k < 5 → c' (u + 4) k = c (t + 4) k) ∧
  (c' (u + 6) 1 = c (t + 6) 1 ∧ c' (u + 8) 1 = c (t + 8) 1 ∧ c' (u + 10) 1 = c (t + 10) 1) ∧
  (∀ k, k < 50 → c' (u + 7) k = c (t + 7) k ∧ c' (u + 9) k = c (t + 9) k ∧ c' (u + 11) k = c (t + 11) k) ∧
  (∀ k, k < 20 → c' (u + 12) k = c (t + 12) k) ∧ ∀ b, b < 8 → ∀ k, k < 6 → c' (u + 13 + b) k = c (t + 13 + b) k
theorem bt_W.cp {t u : Nat} {c c' : bv_Mem} (h : bt_cp t u c c') (hw : bt_W t c) : bt_W u c' := by
  obtain ⟨-, ⟨a2, a4, a5, a6, a11⟩, h3, h4, h5, ⟨b6, b8, b10⟩, h7, h8, h9⟩ := h
  obtain ⟨⟨g1, g2, g3, g4, g5⟩, k2, k3, k4, k5, k6⟩ := hw
  refine ⟨⟨by rw [a2]; exact g1, by rw [a4]; exact g2, by rw [a5]; exact g3, by rw [b6]; exact g4, by rw [a11]; exact g5⟩, fun i hi => by rw [h5 i hi]; exact k2 i hi, fun i hi => by rw [h3 i hi]; exact k3 i hi, fun i hi => by rw [h4 i hi]; exact k4 i hi, fun b hb => ?_, fun i hi => ?_⟩
  · rw [h9 b hb 0 (by omega), h9 b hb 1 (by omega), h9 b hb 2 (by omega), h9 b hb 3 (by omega), h9 b hb 4 (by omega), h9 b hb 5 (by omega)]
    exact k5 b hb
  · rw [(h7 i hi).1, (h7 i hi).2.1, (h7 i hi).2.2]
    exact k6 i hi
theorem bt_X.cg {u : Nat} {f f' g g' : Nat → Int32} {l l' : Int32} (h1 : ∀ i, i < 50 → f' i = f i) (h2 : l' = l) (h3 : ∀ k, k < 101 → g' k = g k) (h : bt_X u f l g) : bt_X u f' l' g' := by
  have e : px_src f' = px_src f := by
    funext i
    unfold px_src
    by_cases hi : i < 50
    · rw [if_pos hi, if_pos hi, h1 i hi]
    · rw [if_neg hi, if_neg hi]
  obtain ⟨n, hn, hl, hx⟩ := h
  refine ⟨n, hn, h2.trans hl, ?_⟩
  rcases hx with ⟨x1, x2⟩ | ⟨x1, cd, x2, x3, x4, x5, x6⟩
  · exact Or.inl ⟨x1, (h3 0 (by omega)).trans x2⟩
  · refine Or.inr ⟨x1, cd, by rw [e]; exact x2, x3, x4, (h3 0 (by omega)).trans x5, fun k hk => ?_⟩
    rw [h3 (1 + k) (by omega), h3 (51 + k) (by omega)]
    exact x6 k hk
theorem bt_R.cp {t u r s : Nat} {c c' m m' : bv_Mem} (h : bt_cp t u c c') (hm : ∀ k, k < 371 → m' s k = m r k) (hw : bt_R t r c m) : bt_R u s c' m' := by
  obtain ⟨-, ⟨a2, a4, a5, a6, a11⟩, h3, h4, h5, ⟨b6, b8, b10⟩, h7, h8, h9⟩ := h
  obtain ⟨⟨g1, g2, g3, g4, g5, g6⟩, k2, k3, k4, k5, k6, k7, k8, k9⟩ := hw
  refine ⟨⟨?_, ?_, ?_, ?_, ?_, ?_⟩, ?_, ?_, ?_, ?_, ?_, ?_, ?_, ?_⟩
  · rw [hm 0 (by omega), a5]; exact g1
  · rw [hm 1 (by omega), a6]; exact g2
  · rw [hm 2 (by omega), a2]; exact g3
  · rw [hm 3 (by omega), a4]; exact g4
  · rw [hm 4 (by omega), b6]; exact g5
  · rw [hm 5 (by omega), a11]; exact g6
  · intro i hi; rw [hm (6 + i) (by omega), h5 i hi]; exact k2 i hi
  · intro i hi; rw [hm (11 + i) (by omega), h3 i hi]; exact k3 i hi
  · intro i hi; rw [hm (31 + i) (by omega), h4 i hi]; exact k4 i hi
  · intro b hb k hk; rw [hm (51 + 6 * b + k) (by omega), h9 b hb k hk]; exact k5 b hb k hk
  · intro i hi; rw [hm (99 + i) (by omega), (h7 i hi).1]; exact k6 i hi
  · intro i hi; rw [hm (149 + i) (by omega), h8 i hi]; exact k7 i hi
  · exact k8.cg (fun i hi => (h7 i hi).2.1) b8 (fun k hk => hm (169 + k) (by omega))
  · exact k9.cg (fun i hi => (h7 i hi).2.2) b10 (fun k hk => hm (270 + k) (by omega))
theorem up6 {mi : bv_Mem} {a : Nat} {v : Nat → Int32} : bv_up (bv_up (bv_up (bv_up (bv_up (bv_up mi a 0 (v 0)) a 1 (v 1)) a 2 (v 2)) a 3 (v 3)) a 4 (v 4)) a 5 (v 5) = bv_set mi a v 0 6 := by
  funext x k
  unfold bv_set bv_up
  try dsimp only
  by_cases hx : x = a
  · match k with
    | 0 => simp [hx]
    | 1 => simp [hx]
    | 2 => simp [hx]
    | 3 => simp [hx]
    | 4 => simp [hx]
    | 5 => simp [hx]
    | k + 6 =>
      simp [hx]
      intro q
      omega
  · simp [hx]
theorem cpB {a b : Nat} {mi : bv_Mem} (ha : bv_isC 74 a 0 = true) (hb : bv_isC 74 b 0 = true) (hn : b ≠ a) (h5 : mi b 5 = 0 ∨ mi b 5 = 1) : f_X0_copyBottle a b mi = some (bv_set mi a (mi b) 0 6) := by
  have e5 : bv_fit .boolean (mi b 5) = true := by
    unfold bv_fit
    rcases h5 with h | h <;> rw [h] <;> rfl
  unfold f_X0_copyBottle
  rw [if_pos hb, if_pos ha]
  simp only [bv_up_ne hn, e5, if_true]
  exact congrArg some (up6 (v := mi b))
theorem cpT {a b : Nat} {mi : bv_Mem} (ha : bv_isC 74 a 4 = true) (hb : bv_isC 74 b 4 = true) (ra : bv_RF a 0 = some (a + 1)) (rb : bv_RF b 0 = some (b + 1)) (ia : bv_isA 74 (a + 1) 1 50 = true) (ib : bv_isA 74 (b + 1) 1 50 = true) (la : bv_len (a + 1) = 50) (lb : bv_len (b + 1) = 50) (hn : b ≠ a + 1) (hf : ∀ i, i < 50 → bt_by (mi (b + 1) i)) : f_X4_copyTape a b mi = some (bv_up (bv_cp mi (b + 1) (a + 1) 0 0 50) a 1 (mi b 1)) := by
  have hc : bv_cpok mi 1 (b + 1) (a + 1) 50 50 0 0 50 = true := by
    unfold bv_cpok
    have z : (50 : Int32).toNatClampNeg = 50 := rfl
    have z0 : (0 : Int32).toNatClampNeg = 0 := rfl
    rw [z, z0]
    have hall : (List.range 50).all (fun i => fits .byte (.int (mi (b + 1) (0 + i)))) = true := by
      rw [List.all_eq_true]
      intro i hi
      have hi := List.mem_range.mp hi
      rw [Nat.zero_add, ← show (mi (b + 1) i).toInt8.toInt32 = mi (b + 1) i from hf i hi]
      exact pk_fb _
    rw [hall]
    decide
  unfold f_X4_copyTape
  rw [if_pos hb, rb]
  simp only [Option.bind_some, ha, ra, la, lb, ia, ib, hc, if_true]
  have z : (50 : Int32).toNatClampNeg = 50 := rfl
  have z0 : (0 : Int32).toNatClampNeg = 0 := rfl
  rw [z, z0, bv_cp_row hn]
/-- the Bottles, from the lo-th on -/
def bt_bc (s d lo : Nat) (mi : bv_Mem) : bv_Mem := fun a k => if d + lo ≤ a ∧ a < d + 8 ∧ k < 6 then mi (a - d + s) k else mi a k

theorem cpL_copyTown_22_1 : ∀ (n i fu : Nat) (mi : bv_Mem), i + n = 8 → n < fu → (∀ b, b < 8 → mi (14 + b) 5 = 0 ∨ mi (14 + b) 5 = 1) → b_X5_copyTown_22_1_35 fu (nI i) mi = b_X5_copyTown_22_1_35 (fu - n) (nI 8) (bt_bc 14 35 i mi) := by
  intro n
  induction n with
  | zero =>
    intro i fu mi hi hf h5
    have e : i = 8 := by omega
    subst e
    have e2 : bt_bc 14 35 8 mi = mi := by
      funext a k
      unfold bt_bc
      rw [if_neg (by omega)]
    rw [e2]
    rfl
  | succ n ih =>
    intro i fu mi hi hf h5
    obtain ⟨fu, rfl⟩ : ∃ k, fu = k + 1 := ⟨fu - 1, by omega⟩
    have e1 : ¬ (8 : Int32) ≤ nI i := nI_ge (b := 8) (by omega) (by omega)
    have e2 : bv_in (nI i) 8 = true := nb_in (by omega) (by omega)
    have r1 : ∀ b, b < 8 → bv_RF 27 b = some (35 + b) ∧ bv_RF 6 b = some (14 + b) ∧ bv_isC 74 (35 + b) 0 = true ∧ bv_isC 74 (14 + b) 0 = true := by decide
    obtain ⟨r2, r3, r4, r5⟩ := r1 i (by omega)
    rw [b_X5_copyTown_22_1_35, if_neg e1, if_pos e2, nI_clamp (by omega), r2, r3]
    simp only [Option.bind_some, r4, if_true]
    rw [cpB r4 r5 (by omega) (h5 i (by omega))]
    simp only [Option.bind_some]
    rw [show nI i + 1 = nI (i + 1) from nI_1 i, ih (i + 1) fu _ (by omega) (by omega)]
    · congr 1
      · omega
      · funext a k
        unfold bt_bc bv_set
        try dsimp only
        by_cases h1 : 35 + (i + 1) ≤ a ∧ a < 35 + 8 ∧ k < 6
        · rw [if_pos h1, if_neg (by omega), if_pos (by omega)]
        · rw [if_neg h1]
          by_cases h2 : a = 35 + i ∧ 0 ≤ k ∧ k < 6
          · rw [if_pos h2, if_pos (by omega)]
            congr 1
            omega
          · rw [if_neg h2, if_neg (by omega)]
    · intro b hb
      rw [bv_set_row (by omega)]
      exact h5 b hb
set_option maxHeartbeats 4000000 in
theorem cpW_copyTown_22_1 {c : bv_Mem} (hw : bt_W 1 c) : ∃ c', f_X5_copyTown_22_1 c = some c' ∧ bt_cp 1 22 c c' := by
  have h5 : ∀ b, b < 8 → c (14 + b) 5 = 0 ∨ c (14 + b) 5 = 1 := by
    intro b hb
    obtain ⟨-, -, -, -, -, v, hv, e⟩ := hw.2.2.2.2.1 b hb
    match v, hv with
    | 0, _ => exact Or.inl e
    | 1, _ => exact Or.inr e
  have z20 : (20 : Int32).toNatClampNeg = 20 := rfl
  have z5 : (5 : Int32).toNatClampNeg = 5 := rfl
  have z0 : (0 : Int32).toNatClampNeg = 0 := rfl
  unfold f_X5_copyTown_22_1 f_X1_copyLand_23_2
  simp only [Option.bind_some, z20, z5, z0]
  have hl := cpL_copyTown_22_1 8 0 400 (bv_up (bv_cp (bv_cp (bv_cp c 3 24 0 0 20) 4 25 0 0 20) 5 26 0 0 5) 22 2 ((bv_cp (bv_cp (bv_cp c 3 24 0 0 20) 4 25 0 0 20) 5 26 0 0 5) 1 2)) (by omega) (by omega) (fun b hb => by
    rw [bv_up_row (by omega), bv_cp_row (by omega), bv_cp_row (by omega), bv_cp_row (by omega)]
    exact h5 b hb)
  rw [show (0 : Int32) = nI 0 from rfl, hl, show 400 - 8 = 391 + 1 from rfl, b_X5_copyTown_22_1_35, if_pos (by decide)]
  generalize hM : (bt_bc 14 35 0 (bv_up (bv_cp (bv_cp (bv_cp c 3 24 0 0 20) 4 25 0 0 20) 5 26 0 0 5) 22 2 ((bv_cp (bv_cp (bv_cp c 3 24 0 0 20) 4 25 0 0 20) 5 26 0 0 5) 1 2))) = M
  have m0 : ∀ a k, M a k = if 35 ≤ a ∧ a < 35 + 8 ∧ k < 6 then c (a - 35 + 14) k else if a = 22 ∧ k = 2 then c 1 2 else if a = 26 ∧ k < 5 then c 5 k else if a = 25 ∧ k < 20 then c 4 k else if a = 24 ∧ k < 20 then c 3 k else c a k := by
    intro a k
    rw [← hM]
    unfold bt_bc bv_up bv_cp
    try dsimp only
    by_cases q1 : 35 ≤ a ∧ a < 35 + 8 ∧ k < 6
    · rw [if_pos (by omega), if_pos q1, if_neg (by omega), if_neg (by omega), if_neg (by omega), if_neg (by omega)]
    · rw [if_neg (by omega), if_neg q1]
      by_cases q2 : a = 22 ∧ k = 2
      · rw [if_pos q2, if_pos q2, if_neg (by omega), if_neg (by omega), if_neg (by omega)]
      · rw [if_neg q2, if_neg q2]
        by_cases q3 : a = 26 ∧ k < 5
        · rw [if_pos (by omega), if_pos q3, if_neg (by omega), if_neg (by omega)]
          simp
        · rw [if_neg (by omega), if_neg q3]
          by_cases q4 : a = 25 ∧ k < 20
          · rw [if_pos (by omega), if_pos q4, if_neg (by omega)]
            simp
          · rw [if_neg (by omega), if_neg q4]
            by_cases q5 : a = 24 ∧ k < 20
            · rw [if_pos (by omega), if_pos q5]
              simp
            · rw [if_neg (by omega), if_neg q5]
  clear hM hl
  have by7 : ∀ i, i < 50 → bt_by (c 8 i) := fun i hi => (hw.2.2.2.2.2 i hi).1
  have by9 : ∀ i, i < 50 → bt_by (c 10 i) := fun i hi => (hw.2.2.2.2.2 i hi).2.1
  have by11 : ∀ i, i < 50 → bt_by (c 12 i) := fun i hi => (hw.2.2.2.2.2 i hi).2.2
  have t1 : ∀ mi : bv_Mem, (∀ i, i < 50 → bt_by (mi 8 i)) → f_X4_copyTape 28 7 mi = some (bv_up (bv_cp mi 8 29 0 0 50) 28 1 (mi 7 1)) := fun mi hf => cpT (a := 28) (b := 7) rfl rfl rfl rfl rfl rfl rfl rfl (by decide) hf
  have t2 : ∀ mi : bv_Mem, (∀ i, i < 50 → bt_by (mi 10 i)) → f_X4_copyTape 30 9 mi = some (bv_up (bv_cp mi 10 31 0 0 50) 30 1 (mi 9 1)) := fun mi hf => cpT (a := 30) (b := 9) rfl rfl rfl rfl rfl rfl rfl rfl (by decide) hf
  have t3 : ∀ mi : bv_Mem, (∀ i, i < 50 → bt_by (mi 12 i)) → f_X4_copyTape 32 11 mi = some (bv_up (bv_cp mi 12 33 0 0 50) 32 1 (mi 11 1)) := fun mi hf => cpT (a := 32) (b := 11) rfl rfl rfl rfl rfl rfl rfl rfl (by decide) hf
  have row : ∀ a, a < 22 ∨ 22 + 21 ≤ a → M a = c a := by
    intro a ha
    funext k
    rw [m0, if_neg (by omega), if_neg (by omega), if_neg (by omega), if_neg (by omega), if_neg (by omega)]
  rw [t1 _ (fun i hi => by rw [bv_up_row (by decide), bv_up_row (by decide), bv_up_row (by decide), row _ (by decide)]; exact by7 i hi)]
  simp only [Option.bind_some]
  rw [t2 _ (fun i hi => by rw [bv_up_row (by decide), bv_cp_row (by decide), bv_up_row (by decide), bv_up_row (by decide), bv_up_row (by decide), row _ (by decide)]; exact by9 i hi)]
  simp only [Option.bind_some]
  rw [t3 _ (fun i hi => by rw [bv_up_row (by decide), bv_cp_row (by decide), bv_up_row (by decide), bv_cp_row (by decide), bv_up_row (by decide), bv_up_row (by decide), bv_up_row (by decide), row _ (by decide)]; exact by11 i hi)]
  simp only [Option.bind_some]
  refine ⟨_, rfl, ?_⟩
  have rS : M 1 = c 1 := row _ (by decide)
  refine ⟨?_, ⟨?_, ?_, ?_, ?_, ?_⟩, ?_, ?_, ?_, ⟨?_, ?_, ?_⟩, ?_, ?_, ?_⟩
  · intro a ha
    rw [bv_up_row (by omega), bv_cp_row (by omega), bv_up_row (by omega), bv_cp_row (by omega), bv_up_row (by omega), bv_cp_row (by omega), bv_up_row (by omega), bv_cp_row (by omega), bv_up_row (by omega), bv_up_row (by omega), bv_up_row (by omega), row a ha]
  · simp [bv_up, bv_cp, rS, m0]
  · simp [bv_up, bv_cp, rS]
  · simp [bv_up, bv_cp, rS]
  · simp [bv_up, bv_cp, rS]
  · simp [bv_up, bv_cp, rS]
  · intro k hk
    simp [bv_up, bv_cp, m0, hk]
  · intro k hk
    simp [bv_up, bv_cp, m0, hk]
  · intro k hk
    simp [bv_up, bv_cp, m0, hk]
  · simp [bv_up, bv_cp, row]
  · simp [bv_up, bv_cp, row]
  · simp [bv_up, bv_cp, row]
  · intro k hk
    simp [bv_up, bv_cp, row, hk]
  · intro k hk
    simp [bv_up, bv_cp, row, hk]
  · intro b hb k hk
    rw [bv_up_row (by omega), bv_cp_row (by omega), bv_up_row (by omega), bv_cp_row (by omega), bv_up_row (by omega), bv_cp_row (by omega), bv_up_row (by omega), bv_cp_row (by omega), bv_up_row (by omega), bv_up_row (by omega), bv_up_row (by omega), m0, if_pos (by omega)]
    congr 1
    omega

theorem cpL_copyTown_22 : ∀ (n i fu : Nat) (mi : bv_Mem), i + n = 8 → n < fu → (∀ b, b < 8 → mi (35 + b) 5 = 0 ∨ mi (35 + b) 5 = 1) → b_X5_copyTown_22_35 fu (nI i) mi = b_X5_copyTown_22_35 (fu - n) (nI 8) (bt_bc 35 14 i mi) := by
  intro n
  induction n with
  | zero =>
    intro i fu mi hi hf h5
    have e : i = 8 := by omega
    subst e
    have e2 : bt_bc 35 14 8 mi = mi := by
      funext a k
      unfold bt_bc
      rw [if_neg (by omega)]
    rw [e2]
    rfl
  | succ n ih =>
    intro i fu mi hi hf h5
    obtain ⟨fu, rfl⟩ : ∃ k, fu = k + 1 := ⟨fu - 1, by omega⟩
    have e1 : ¬ (8 : Int32) ≤ nI i := nI_ge (b := 8) (by omega) (by omega)
    have e2 : bv_in (nI i) 8 = true := nb_in (by omega) (by omega)
    have r1 : ∀ b, b < 8 → bv_RF 6 b = some (14 + b) ∧ bv_RF 27 b = some (35 + b) ∧ bv_isC 74 (14 + b) 0 = true ∧ bv_isC 74 (35 + b) 0 = true := by decide
    obtain ⟨r2, r3, r4, r5⟩ := r1 i (by omega)
    rw [b_X5_copyTown_22_35, if_neg e1, if_pos e2, nI_clamp (by omega), r2, r3]
    simp only [Option.bind_some, r4, if_true]
    rw [cpB r4 r5 (by omega) (h5 i (by omega))]
    simp only [Option.bind_some]
    rw [show nI i + 1 = nI (i + 1) from nI_1 i, ih (i + 1) fu _ (by omega) (by omega)]
    · congr 1
      · omega
      · funext a k
        unfold bt_bc bv_set
        try dsimp only
        by_cases h1 : 14 + (i + 1) ≤ a ∧ a < 14 + 8 ∧ k < 6
        · rw [if_pos h1, if_neg (by omega), if_pos (by omega)]
        · rw [if_neg h1]
          by_cases h2 : a = 14 + i ∧ 0 ≤ k ∧ k < 6
          · rw [if_pos h2, if_pos (by omega)]
            congr 1
            omega
          · rw [if_neg h2, if_neg (by omega)]
    · intro b hb
      rw [bv_set_row (by omega)]
      exact h5 b hb
set_option maxHeartbeats 4000000 in
theorem cpW_copyTown_22 {c : bv_Mem} (hw : bt_W 22 c) : ∃ c', f_X5_copyTown_22 c = some c' ∧ bt_cp 22 1 c c' := by
  have h5 : ∀ b, b < 8 → c (35 + b) 5 = 0 ∨ c (35 + b) 5 = 1 := by
    intro b hb
    obtain ⟨-, -, -, -, -, v, hv, e⟩ := hw.2.2.2.2.1 b hb
    match v, hv with
    | 0, _ => exact Or.inl e
    | 1, _ => exact Or.inr e
  have z20 : (20 : Int32).toNatClampNeg = 20 := rfl
  have z5 : (5 : Int32).toNatClampNeg = 5 := rfl
  have z0 : (0 : Int32).toNatClampNeg = 0 := rfl
  unfold f_X5_copyTown_22 f_X1_copyLand_23
  simp only [Option.bind_some, z20, z5, z0]
  have hl := cpL_copyTown_22 8 0 400 (bv_up (bv_cp (bv_cp (bv_cp c 24 3 0 0 20) 25 4 0 0 20) 26 5 0 0 5) 1 2 ((bv_cp (bv_cp (bv_cp c 24 3 0 0 20) 25 4 0 0 20) 26 5 0 0 5) 22 2)) (by omega) (by omega) (fun b hb => by
    rw [bv_up_row (by omega), bv_cp_row (by omega), bv_cp_row (by omega), bv_cp_row (by omega)]
    exact h5 b hb)
  rw [show (0 : Int32) = nI 0 from rfl, hl, show 400 - 8 = 391 + 1 from rfl, b_X5_copyTown_22_35, if_pos (by decide)]
  generalize hM : (bt_bc 35 14 0 (bv_up (bv_cp (bv_cp (bv_cp c 24 3 0 0 20) 25 4 0 0 20) 26 5 0 0 5) 1 2 ((bv_cp (bv_cp (bv_cp c 24 3 0 0 20) 25 4 0 0 20) 26 5 0 0 5) 22 2))) = M
  have m0 : ∀ a k, M a k = if 14 ≤ a ∧ a < 14 + 8 ∧ k < 6 then c (a - 14 + 35) k else if a = 1 ∧ k = 2 then c 22 2 else if a = 5 ∧ k < 5 then c 26 k else if a = 4 ∧ k < 20 then c 25 k else if a = 3 ∧ k < 20 then c 24 k else c a k := by
    intro a k
    rw [← hM]
    unfold bt_bc bv_up bv_cp
    try dsimp only
    by_cases q1 : 14 ≤ a ∧ a < 14 + 8 ∧ k < 6
    · rw [if_pos (by omega), if_pos q1, if_neg (by omega), if_neg (by omega), if_neg (by omega), if_neg (by omega)]
    · rw [if_neg (by omega), if_neg q1]
      by_cases q2 : a = 1 ∧ k = 2
      · rw [if_pos q2, if_pos q2, if_neg (by omega), if_neg (by omega), if_neg (by omega)]
      · rw [if_neg q2, if_neg q2]
        by_cases q3 : a = 5 ∧ k < 5
        · rw [if_pos (by omega), if_pos q3, if_neg (by omega), if_neg (by omega)]
          simp
        · rw [if_neg (by omega), if_neg q3]
          by_cases q4 : a = 4 ∧ k < 20
          · rw [if_pos (by omega), if_pos q4, if_neg (by omega)]
            simp
          · rw [if_neg (by omega), if_neg q4]
            by_cases q5 : a = 3 ∧ k < 20
            · rw [if_pos (by omega), if_pos q5]
              simp
            · rw [if_neg (by omega), if_neg q5]
  clear hM hl
  have by7 : ∀ i, i < 50 → bt_by (c 29 i) := fun i hi => (hw.2.2.2.2.2 i hi).1
  have by9 : ∀ i, i < 50 → bt_by (c 31 i) := fun i hi => (hw.2.2.2.2.2 i hi).2.1
  have by11 : ∀ i, i < 50 → bt_by (c 33 i) := fun i hi => (hw.2.2.2.2.2 i hi).2.2
  have t1 : ∀ mi : bv_Mem, (∀ i, i < 50 → bt_by (mi 29 i)) → f_X4_copyTape 7 28 mi = some (bv_up (bv_cp mi 29 8 0 0 50) 7 1 (mi 28 1)) := fun mi hf => cpT (a := 7) (b := 28) rfl rfl rfl rfl rfl rfl rfl rfl (by decide) hf
  have t2 : ∀ mi : bv_Mem, (∀ i, i < 50 → bt_by (mi 31 i)) → f_X4_copyTape 9 30 mi = some (bv_up (bv_cp mi 31 10 0 0 50) 9 1 (mi 30 1)) := fun mi hf => cpT (a := 9) (b := 30) rfl rfl rfl rfl rfl rfl rfl rfl (by decide) hf
  have t3 : ∀ mi : bv_Mem, (∀ i, i < 50 → bt_by (mi 33 i)) → f_X4_copyTape 11 32 mi = some (bv_up (bv_cp mi 33 12 0 0 50) 11 1 (mi 32 1)) := fun mi hf => cpT (a := 11) (b := 32) rfl rfl rfl rfl rfl rfl rfl rfl (by decide) hf
  have row : ∀ a, a < 1 ∨ 1 + 21 ≤ a → M a = c a := by
    intro a ha
    funext k
    rw [m0, if_neg (by omega), if_neg (by omega), if_neg (by omega), if_neg (by omega), if_neg (by omega)]
  rw [t1 _ (fun i hi => by rw [bv_up_row (by decide), bv_up_row (by decide), bv_up_row (by decide), row _ (by decide)]; exact by7 i hi)]
  simp only [Option.bind_some]
  rw [t2 _ (fun i hi => by rw [bv_up_row (by decide), bv_cp_row (by decide), bv_up_row (by decide), bv_up_row (by decide), bv_up_row (by decide), row _ (by decide)]; exact by9 i hi)]
  simp only [Option.bind_some]
  rw [t3 _ (fun i hi => by rw [bv_up_row (by decide), bv_cp_row (by decide), bv_up_row (by decide), bv_cp_row (by decide), bv_up_row (by decide), bv_up_row (by decide), bv_up_row (by decide), row _ (by decide)]; exact by11 i hi)]
  simp only [Option.bind_some]
  refine ⟨_, rfl, ?_⟩
  have rS : M 22 = c 22 := row _ (by decide)
  refine ⟨?_, ⟨?_, ?_, ?_, ?_, ?_⟩, ?_, ?_, ?_, ⟨?_, ?_, ?_⟩, ?_, ?_, ?_⟩
  · intro a ha
    rw [bv_up_row (by omega), bv_cp_row (by omega), bv_up_row (by omega), bv_cp_row (by omega), bv_up_row (by omega), bv_cp_row (by omega), bv_up_row (by omega), bv_cp_row (by omega), bv_up_row (by omega), bv_up_row (by omega), bv_up_row (by omega), row a ha]
  · simp [bv_up, bv_cp, rS, m0]
  · simp [bv_up, bv_cp, rS]
  · simp [bv_up, bv_cp, rS]
  · simp [bv_up, bv_cp, rS]
  · simp [bv_up, bv_cp, rS]
  · intro k hk
    simp [bv_up, bv_cp, m0, hk]
  · intro k hk
    simp [bv_up, bv_cp, m0, hk]
  · intro k hk
    simp [bv_up, bv_cp, m0, hk]
  · simp [bv_up, bv_cp, row]
  · simp [bv_up, bv_cp, row]
  · simp [bv_up, bv_cp, row]
  · intro k hk
    simp [bv_up, bv_cp, row, hk]
  · intro k hk
    simp [bv_up, bv_cp, row, hk]
  · intro b hb k hk
    rw [bv_up_row (by omega), bv_cp_row (by omega), bv_up_row (by omega), bv_cp_row (by omega), bv_up_row (by omega), bv_cp_row (by omega), bv_up_row (by omega), bv_cp_row (by omega), bv_up_row (by omega), bv_up_row (by omega), bv_up_row (by omega), m0, if_pos (by omega)]
    congr 1
    omega

theorem cA_copyAll_62_63 : ∀ (n i fu : Nat) (mi : bv_Mem), i + n = 371 → n < fu → b_X8_copyAll_62_63_2 fu (nI i) mi = some (bv_set mi 63 (mi 62) i 371) := by
  intro n
  induction n with
  | zero =>
    intro i fu mi hi hf
    obtain ⟨fu, rfl⟩ : ∃ k, fu = k + 1 := ⟨fu - 1, by omega⟩
    have e : i = 371 := by omega
    subst e
    rw [b_X8_copyAll_62_63_2, if_pos (by decide), bv_set_nil (Nat.le_refl _)]
  | succ n ih =>
    intro i fu mi hi hf
    obtain ⟨fu, rfl⟩ : ∃ k, fu = k + 1 := ⟨fu - 1, by omega⟩
    have e1 : ¬ (371 : Int32) ≤ nI i := nI_ge (b := 371) (by omega) (by omega)
    have e2 : bv_in (nI i) 371 = true := nb_in (by omega) (by omega)
    rw [b_X8_copyAll_62_63_2, if_neg e1, if_pos e2, nI_clamp (by omega), show nI i + 1 = nI (i + 1) from nI_1 i, ih (i + 1) fu _ (by omega) (by omega), bv_up_row (a := 63) (j := 62) (by decide), bv_set_up (by omega)]
theorem cA8_copyAll_62_63 (mi : bv_Mem) : f_X8_copyAll_62_63 mi = some (bv_set mi 63 (mi 62) 0 371) := cA_copyAll_62_63 371 0 400 mi (by omega) (by omega)

theorem cA_copyAll_63_62 : ∀ (n i fu : Nat) (mi : bv_Mem), i + n = 371 → n < fu → b_X8_copyAll_63_62_2 fu (nI i) mi = some (bv_set mi 62 (mi 63) i 371) := by
  intro n
  induction n with
  | zero =>
    intro i fu mi hi hf
    obtain ⟨fu, rfl⟩ : ∃ k, fu = k + 1 := ⟨fu - 1, by omega⟩
    have e : i = 371 := by omega
    subst e
    rw [b_X8_copyAll_63_62_2, if_pos (by decide), bv_set_nil (Nat.le_refl _)]
  | succ n ih =>
    intro i fu mi hi hf
    obtain ⟨fu, rfl⟩ : ∃ k, fu = k + 1 := ⟨fu - 1, by omega⟩
    have e1 : ¬ (371 : Int32) ≤ nI i := nI_ge (b := 371) (by omega) (by omega)
    have e2 : bv_in (nI i) 371 = true := nb_in (by omega) (by omega)
    rw [b_X8_copyAll_63_62_2, if_neg e1, if_pos e2, nI_clamp (by omega), show nI i + 1 = nI (i + 1) from nI_1 i, ih (i + 1) fu _ (by omega) (by omega), bv_up_row (a := 62) (j := 63) (by decide), bv_set_up (by omega)]
theorem cA8_copyAll_63_62 (mi : bv_Mem) : f_X8_copyAll_63_62 mi = some (bv_set mi 62 (mi 63) 0 371) := cA_copyAll_63_62 371 0 400 mi (by omega) (by omega)

theorem cA_copyAll_62_64 : ∀ (n i fu : Nat) (mi : bv_Mem), i + n = 371 → n < fu → b_X8_copyAll_62_64_2 fu (nI i) mi = some (bv_set mi 64 (mi 62) i 371) := by
  intro n
  induction n with
  | zero =>
    intro i fu mi hi hf
    obtain ⟨fu, rfl⟩ : ∃ k, fu = k + 1 := ⟨fu - 1, by omega⟩
    have e : i = 371 := by omega
    subst e
    rw [b_X8_copyAll_62_64_2, if_pos (by decide), bv_set_nil (Nat.le_refl _)]
  | succ n ih =>
    intro i fu mi hi hf
    obtain ⟨fu, rfl⟩ : ∃ k, fu = k + 1 := ⟨fu - 1, by omega⟩
    have e1 : ¬ (371 : Int32) ≤ nI i := nI_ge (b := 371) (by omega) (by omega)
    have e2 : bv_in (nI i) 371 = true := nb_in (by omega) (by omega)
    rw [b_X8_copyAll_62_64_2, if_neg e1, if_pos e2, nI_clamp (by omega), show nI i + 1 = nI (i + 1) from nI_1 i, ih (i + 1) fu _ (by omega) (by omega), bv_up_row (a := 64) (j := 62) (by decide), bv_set_up (by omega)]
theorem cA8_copyAll_62_64 (mi : bv_Mem) : f_X8_copyAll_62_64 mi = some (bv_set mi 64 (mi 62) 0 371) := cA_copyAll_62_64 371 0 400 mi (by omega) (by omega)

theorem cA_copyAll_64_62 : ∀ (n i fu : Nat) (mi : bv_Mem), i + n = 371 → n < fu → b_X8_copyAll_64_62_2 fu (nI i) mi = some (bv_set mi 62 (mi 64) i 371) := by
  intro n
  induction n with
  | zero =>
    intro i fu mi hi hf
    obtain ⟨fu, rfl⟩ : ∃ k, fu = k + 1 := ⟨fu - 1, by omega⟩
    have e : i = 371 := by omega
    subst e
    rw [b_X8_copyAll_64_62_2, if_pos (by decide), bv_set_nil (Nat.le_refl _)]
  | succ n ih =>
    intro i fu mi hi hf
    obtain ⟨fu, rfl⟩ : ∃ k, fu = k + 1 := ⟨fu - 1, by omega⟩
    have e1 : ¬ (371 : Int32) ≤ nI i := nI_ge (b := 371) (by omega) (by omega)
    have e2 : bv_in (nI i) 371 = true := nb_in (by omega) (by omega)
    rw [b_X8_copyAll_64_62_2, if_neg e1, if_pos e2, nI_clamp (by omega), show nI i + 1 = nI (i + 1) from nI_1 i, ih (i + 1) fu _ (by omega) (by omega), bv_up_row (a := 62) (j := 64) (by decide), bv_set_up (by omega)]
theorem cA8_copyAll_64_62 (mi : bv_Mem) : f_X8_copyAll_64_62 mi = some (bv_set mi 62 (mi 64) 0 371) := cA_copyAll_64_62 371 0 400 mi (by omega) (by omega)

set_option maxHeartbeats 4000000 in
theorem S_image : bv_S_image bv_I := by
  intro mi hI
  refine lock (F7 := f_X7_image) (F8 := f_X8_image) ?_ mi hI
  intro c m h
  obtain ⟨c', h1, h2⟩ := cpW_copyTown_22_1 h.1.1
  refine ⟨c 0 2 + 1, bv_up c' 0 2 (c 0 2 + 1), bv_up (bv_set m 63 (m 62) 0 371) 61 3 (c 0 2 + 1), ?_, ?_, ?_, ?_, ?_⟩
  · unfold f_X7_image
    rw [h1]
    simp only [Option.bind_some, bv_up_eq]
    rw [h2.1 0 (by omega)]
  · unfold f_X8_image
    rw [cA8_copyAll_62_63]
    simp only [Option.bind_some, bv_up_eq]
    rw [bv_set_row (by decide), h.2.1.1]
  · obtain ⟨⟨g1, g2⟩, g3, g5, g6, g9⟩ := h
    have hr : ∀ a, a ≠ 0 → (a < 22 ∨ 43 ≤ a) → bv_up c' 0 2 (c 0 2 + 1) a = c a := fun a h0 ha => by rw [bv_up_row h0, h2.1 a ha]
    have hm : ∀ a, a ≠ 61 → a ≠ 63 → bv_up (bv_set m 63 (m 62) 0 371) 61 3 (c 0 2 + 1) a = m a := fun a h0 ha => by rw [bv_up_row h0, bv_set_row ha]
    refine ⟨⟨g1.cg (fun a q1 q2 => hr a (by omega) (by omega)), g2.cg (fun a q1 q2 => hr a (by omega) (by omega)) (hm 62 (by omega) (by omega))⟩, ⟨?_, fun _ => ?_⟩, g5.cg (hr 50 (by omega) (by omega)) (hm 65 (by omega) (by omega)), g6.cg (fun a q1 q2 => hr a (by omega) (by omega)) (fun a q1 q2 => hm a (by omega) (by omega)), g9.cg (by rw [hr 47 (by omega) (by omega)]) (by rw [bv_up_nn (by omega), bv_set_row (by omega)]) (hr 48 (by omega) (by omega)) (hm 70 (by omega) (by omega))⟩
    · rw [bv_up_eq, bv_up_eq]
    · have q22 : ∀ a, 22 ≤ a → a < 43 → bv_up c' 0 2 (c 0 2 + 1) a = c' a := fun a q1 q2 => bv_up_row (by omega)
      exact ⟨(g1.cp h2).cg (fun a q1 q2 => q22 a q1 (by omega)), (bt_R.cp (m' := bv_set m 63 (m 62) 0 371) (s := 63) h2 (fun k hk => bv_set_in (by omega)) g2).cg (fun a q1 q2 => q22 a q1 (by omega)) (bv_up_row (by omega))⟩
  · intro a ha
    rw [bv_up_row (by omega), h2.1 a (by omega)]
  · intro a ha
    rw [bv_up_row (by omega), bv_set_row (by omega)]
set_option maxHeartbeats 4000000 in
theorem S_restore : bv_S_restore bv_I := by
  intro mi hI
  refine lock (F7 := f_X7_restore) (F8 := f_X8_restore) ?_ mi hI
  intro c m h
  have h3 := h.2.1.1
  by_cases h0 : c 0 2 = 0
  · refine out_err 2 (-1000000002) h ?_ ?_
    · simp [f_X7_restore, h0, x7_e2]
    · simp [f_X8_restore, h3, h0, x8_e2]
  · obtain ⟨k1, k2⟩ := h.2.1.2 h0
    obtain ⟨c', h1, h2⟩ := cpW_copyTown_22 k1
    refine ⟨c 22 5, c', bv_set m 62 (m 63) 0 371, ?_, ?_, ?_, ?_, ?_⟩
    · unfold f_X7_restore
      rw [if_neg h0, h1]
      simp only [Option.bind_some]
      rw [h2.2.1.2.2.1]
    · unfold f_X8_restore
      rw [h3, if_neg h0, cA8_copyAll_63_62]
      simp only [Option.bind_some]
      rw [bv_set_in (by omega), k2.1.1]
    · exact J_town h (fun a ha => h2.1 a (by omega)) (fun a ha => bv_set_row ha) (k1.cp h2) (bt_R.cp (m' := bv_set m 62 (m 63) 0 371) (s := 62) h2 (fun k hk => bv_set_in (by omega)) k2)
    · intro a ha
      exact h2.1 a (by omega)
    · intro a ha
      exact bv_set_row (by omega)
