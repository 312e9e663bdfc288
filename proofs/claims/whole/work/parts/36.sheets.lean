set_option maxHeartbeats 4000000 in
theorem jud_loop {s u : Nat} {c m : bv_Mem} (h : bv_J c m) (hs : s < 4) (hu : u ≤ 40) (hc : c (53 + 2 * s) 1 = nI u) : ∀ (n i f7 f8 : Nat), i + n = 20 → n < f7 → n < f8 → i ≤ u → ∃ r, b_X7_judge_35 f7 (53 + 2 * s) (nI i) c = some (r, c) ∧ b_X8_judge_18 f8 (nI s) (nI i) m = some (r, m) := by
  obtain ⟨h1, h2, h3, h4, h5⟩ := sh_rf s hs
  have e1 : bv_in (nI s) 4 = true := nb_in (by omega) (by omega)
  have e2 : (nI s).toNatClampNeg = s := nI_clamp (by omega)
  obtain ⟨k1, k2, k3, k4, k5⟩ := h.2.2.2.1 s hs
  have fin : ∀ i : Nat, i ≤ 20 → ∃ r, b_X7_judge_76 (53 + 2 * s) (nI i) c = some (r, c) ∧ b_X8_judge_63 (nI s) (nI i) m = some (r, m) := by
    intro i hi
    by_cases q : i = 20
    · subst q
      by_cases q2 : u = 20
      · subst q2
        refine ⟨-1, ?_, ?_⟩
        · simp [b_X7_judge_76, h2, hc, show nI 20 = 20 from rfl]
        · simp [b_X8_judge_63, e1, e2, k2, hc, show nI 20 = 20 from rfl]
      · have g : ¬ nI u = 20 := fun q => q2 ((nI_eq (a := u) (b := 20) (by omega) (by omega)).mp q)
        have g2 : ¬ 20 = nI u := fun q => g q.symm
        refine ⟨nI 20, ?_, ?_⟩
        · simp [b_X7_judge_76, h2, hc, show nI 20 = 20 from rfl, g2]
        · simp [b_X8_judge_63, e1, e2, k2, hc, show nI 20 = 20 from rfl, g]
    · have g : ¬ nI i = 20 := fun z => q ((nI_eq (a := i) (b := 20) (by omega) (by omega)).mp z)
      exact ⟨nI i, by simp [b_X7_judge_76, g], by simp [b_X8_judge_63, g]⟩
  intro n
  induction n with
  | zero =>
    intro i f7 f8 hi hf7 hf8 hiu
    obtain ⟨f7, rfl⟩ : ∃ k, f7 = k + 1 := ⟨f7 - 1, by omega⟩
    obtain ⟨f8, rfl⟩ : ∃ k, f8 = k + 1 := ⟨f8 - 1, by omega⟩
    have e : i = 20 := by omega
    subst e
    obtain ⟨r, q1, q2⟩ := fin 20 (by omega)
    refine ⟨r, ?_, ?_⟩
    · rw [b_X7_judge_35, if_pos (by decide)]; exact q1
    · rw [b_X8_judge_18, if_pos e1]
      by_cases q : m 72 (nI s).toNatClampNeg ≤ nI 20
      · rw [if_pos q]; exact q2
      · rw [if_neg q, if_pos (by decide)]; exact q2
  | succ n ih =>
    intro i f7 f8 hi hf7 hf8 hiu
    obtain ⟨f7, rfl⟩ : ∃ k, f7 = k + 1 := ⟨f7 - 1, by omega⟩
    obtain ⟨f8, rfl⟩ : ∃ k, f8 = k + 1 := ⟨f8 - 1, by omega⟩
    have e20 : ¬ (20 : Int32) ≤ nI i := nI_ge (b := 20) (by omega) (by omega)
    obtain ⟨r0, q1, q2⟩ := fin i (by omega)
    by_cases hq : i = u
    · subst hq
      refine ⟨r0, ?_, ?_⟩
      · rw [b_X7_judge_35, if_neg e20, if_pos h2, hc, if_pos (nI_le (Nat.le_refl _) (by omega))]; exact q1
      · rw [b_X8_judge_18, if_pos e1, e2, k2, hc, if_pos (nI_le (Nat.le_refl _) (by omega))]; exact q2
    · have eu : ¬ nI u ≤ nI i := nI_ge (by omega) (by omega)
      have e3 : bv_in (nI i) 40 = true := nb_in (by omega) (by omega)
      have e4 : (nI i).toNatClampNeg = i := nI_clamp (by omega)
      have e5 : (40 : Int32) * nI s + nI i = nI (40 * s + i) := lt4 (a := 40)
      have e6 : bv_in (nI (40 * s + i)) 160 = true := nb_in (by omega) (by omega)
      have e7 : (nI (40 * s + i)).toNatClampNeg = 40 * s + i := nI_clamp (by omega)
      have e8 : bv_in (nI i) 20 = true := nb_in (by omega) (by omega)
      have e9 : bv_in (31 + nI i) 371 = true := in_lit (a := 31) (by omega) (by omega)
      have e10 : (31 + nI i).toNatClampNeg = 31 + i := c_lit 31 i (by omega)
      have hg : m 62 (31 + i) = c 4 i := RJ_g h (by omega)
      obtain ⟨g, hg2, eg⟩ := WJ_g h (i := i) (by omega)
      have hiff : c (54 + 2 * s) i = c 4 i ↔ m 73 (40 * s + i) = c 4 i := by
        rcases k5 i (by omega) with e | ⟨z1, z2⟩
        · rw [e]
        · rw [eg]
          rw [i_lt] at z1
          rw [i_le] at z2
          have y5 : (0 : Int32).toInt = 0 := rfl
          have y6 : (100 : Int32).toInt = 100 := rfl
          rw [y5] at z1
          rw [y6] at z2
          rw [← Int32.toInt_inj, ← Int32.toInt_inj, nI_toInt (by omega)]
          omega
      by_cases hr : c (54 + 2 * s) i = c 4 i
      · have hr8 := hiff.mp hr
        obtain ⟨r, z1, z2⟩ := ih (i + 1) f7 f8 (by omega) (by omega) (by omega) (by omega)
        refine ⟨r, ?_, ?_⟩
        · rw [← z1, b_X7_judge_35, if_neg e20, if_pos h2, hc, if_neg eu]
          simp [h3, h4, h5, e3, e4, e8, hr, nI_1]
        · rw [← z2, b_X8_judge_18, if_pos e1, e2, k2, hc, if_neg eu, if_neg e20, e5, if_pos e6, e7, if_pos e9, e10, hg, if_pos hr8, nI_1]
      · have hr8 : ¬ m 73 (40 * s + i) = c 4 i := fun q => hr (hiff.mpr q)
        refine ⟨r0, ?_, ?_⟩
        · rw [← q1, b_X7_judge_35, if_neg e20, if_pos h2, hc, if_neg eu]
          simp [h3, h4, h5, e3, e4, e8, hr]
        · rw [← q2, b_X8_judge_18, if_pos e1, e2, k2, hc, if_neg eu, if_neg e20, e5, if_pos e6, e7, if_pos e9, e10, hg, if_neg hr8]
set_option maxHeartbeats 4000000 in
theorem S_judge : bv_S_judge bv_I := by
  intro p mi hI
  refine lock (F7 := f_X7_judge p) (F8 := f_X8_judge p) ?_ mi hI
  intro c m h
  by_cases hp : 0 ≤ p ∧ p ≤ 3
  · obtain ⟨s, hs, rfl⟩ := n_of hp (n := 3) rfl
    obtain ⟨h1, h2, h3, h4, h5⟩ := sh_rf s (by omega)
    have e1 : bv_in (nI s) 4 = true := nb_in (by omega) (by omega)
    have e2 : (nI s).toNatClampNeg = s := nI_clamp (by omega)
    obtain ⟨k1, k2, k3, ⟨u, hu, k4⟩, k5⟩ := h.2.2.2.1 s (by omega)
    by_cases hb : c (53 + 2 * s) 0 = 0
    · refine out_err 2 (-1000000002) h ?_ ?_
      · simp [f_X7_judge, sh7, hp, e1, e2, h1, h2, hb, x7_e2]
      · simp [f_X8_judge, nt8 (show s < 4 by omega), k1, hb, x8_e2]
    · obtain ⟨r, q1, q2⟩ := jud_loop h (s := s) (u := u) (by omega) hu k4 20 0 400 400 (by omega) (by omega) (by omega) (by omega)
      refine out_ro r h ?_ ?_
      · rw [← q1]
        simp [f_X7_judge, sh7, hp, e1, e2, h1, h2, hb, nI_0]
      · rw [← q2]
        simp [f_X8_judge, nt8 (show s < 4 by omega), k1, hb, nI_0]
  · refine out_err 1 (-1000000001) h ?_ ?_
    · simp [f_X7_judge, sh7, hp, x7_e1]
    · simp [f_X8_judge, ntx8 hp, x8_e1]
-- ===== move =====
theorem bv_set_snoc {mi : bv_Mem} {a lo hi : Nat} {f : Nat → Int32} (h : lo ≤ hi) : bv_up (bv_set mi a f lo hi) a hi (f hi) = bv_set mi a f lo (hi + 1) := by
  funext a' k'
  unfold bv_set bv_up
  dsimp only
  by_cases h2 : a' = a ∧ k' = hi
  · rw [if_pos h2, if_pos (by omega), h2.2]
  · rw [if_neg h2]
    by_cases h1 : a' = a ∧ lo ≤ k' ∧ k' < hi
    · rw [if_pos h1, if_pos (by omega)]
    · rw [if_neg h1, if_neg (by omega)]
theorem bv_set_cons {mi : bv_Mem} {a lo hi : Nat} {f : Nat → Int32} (h : lo < hi) : bv_up (bv_set mi a f (lo + 1) hi) a lo (f lo) = bv_set mi a f lo hi := by
  funext a' k'
  unfold bv_set bv_up
  dsimp only
  by_cases h2 : a' = a ∧ k' = lo
  · rw [if_pos h2, if_pos (by omega), h2.2]
  · rw [if_neg h2]
    by_cases h1 : a' = a ∧ lo + 1 ≤ k' ∧ k' < hi
    · rw [if_pos h1, if_pos (by omega)]
    · rw [if_neg h1, if_neg (by omega)]
theorem lt5 {a b c d : Nat} : nI a * nI b + nI c + nI d = nI (a * b + c + d) := by rw [pk_mul, nI_add, nI_add]
theorem mv_fwd {s o i j n : Nat} (m : bv_Mem) (hs : s < 4) (ho : o < 4) (hi : i + n ≤ 40) (hj : j + n ≤ 40) (hle : j ≤ i) : ∀ (k q fu : Nat), q + k = n → k < fu → b_X8_move_28 fu (nI s) (nI i) (nI o) (nI j) (nI n) (nI q) (bv_set m 73 (fun x => m 73 (40 * s + i + (x - (40 * o + j)))) (40 * o + j) (40 * o + j + q)) = some (nI n, bv_set m 73 (fun x => m 73 (40 * s + i + (x - (40 * o + j)))) (40 * o + j) (40 * o + j + n)) := by
  intro k
  induction k with
  | zero =>
    intro q fu hq hf
    obtain ⟨fu, rfl⟩ : ∃ k, fu = k + 1 := ⟨fu - 1, by omega⟩
    have e : q = n := by omega
    subst e
    rw [b_X8_move_28, if_pos (nI_le (Nat.le_refl _) (by omega))]
  | succ k ih =>
    intro q fu hq hf
    obtain ⟨fu, rfl⟩ : ∃ k, fu = k + 1 := ⟨fu - 1, by omega⟩
    have e1 : ¬ nI n ≤ nI q := nI_ge (by omega) (by omega)
    have e2 : nI j ≤ nI i := nI_le hle (by omega)
    have e3 : (40 : Int32) * nI s + nI i + nI q = nI (40 * s + i + q) := lt5 (a := 40)
    have e4 : (40 : Int32) * nI o + nI j + nI q = nI (40 * o + j + q) := lt5 (a := 40)
    have e5 : bv_in (nI (40 * s + i + q)) 160 = true := nb_in (by omega) (by omega)
    have e6 : bv_in (nI (40 * o + j + q)) 160 = true := nb_in (by omega) (by omega)
    rw [b_X8_move_28, if_neg e1, if_pos e2, b_X8_move_53, e3, e4, if_pos e5, if_pos e6, nI_clamp (by omega), nI_clamp (by omega), show nI q + 1 = nI (q + 1) from nI_1 q]
    have hr : bv_set m 73 (fun x => m 73 (40 * s + i + (x - (40 * o + j)))) (40 * o + j) (40 * o + j + q) 73 (40 * s + i + q) = (fun x => m 73 (40 * s + i + (x - (40 * o + j)))) (40 * o + j + q) := by
      rw [bv_set_out (by omega)]
      show m 73 (40 * s + i + q) = m 73 (40 * s + i + (40 * o + j + q - (40 * o + j)))
      congr 1
      omega
    rw [hr, bv_set_snoc (by omega)]
    exact ih (q + 1) fu (by omega) (by omega)
theorem mv_bwd {s o i j n : Nat} (m : bv_Mem) (hs : s < 4) (ho : o < 4) (hi : i + n ≤ 40) (hj : j + n ≤ 40) (hle : i < j) : ∀ (k q fu : Nat), q + k = n → k < fu → b_X8_move_28 fu (nI s) (nI i) (nI o) (nI j) (nI n) (nI q) (bv_set m 73 (fun x => m 73 (40 * s + i + (x - (40 * o + j)))) (40 * o + j + k) (40 * o + j + n)) = some (nI n, bv_set m 73 (fun x => m 73 (40 * s + i + (x - (40 * o + j)))) (40 * o + j) (40 * o + j + n)) := by
  intro k
  induction k with
  | zero =>
    intro q fu hq hf
    obtain ⟨fu, rfl⟩ : ∃ k, fu = k + 1 := ⟨fu - 1, by omega⟩
    have e : q = n := by omega
    subst e
    rw [b_X8_move_28, if_pos (nI_le (Nat.le_refl _) (by omega))]
    rfl
  | succ k ih =>
    intro q fu hq hf
    obtain ⟨fu, rfl⟩ : ∃ k, fu = k + 1 := ⟨fu - 1, by omega⟩
    have e1 : ¬ nI n ≤ nI q := nI_ge (by omega) (by omega)
    have e2 : ¬ nI j ≤ nI i := nI_ge hle (by omega)
    have e0 : nI n - 1 - nI q = nI k := by
      have z : nI n - 1 = nI (n - 1) := by
        obtain ⟨n', rfl⟩ : ∃ n', n = n' + 1 := ⟨n - 1, by omega⟩
        exact nI_pred n'
      rw [z, pk_sub (by omega)]
      congr 1
      omega
    have e3 : (40 : Int32) * nI s + nI i + nI k = nI (40 * s + i + k) := lt5 (a := 40)
    have e4 : (40 : Int32) * nI o + nI j + nI k = nI (40 * o + j + k) := lt5 (a := 40)
    have e5 : bv_in (nI (40 * s + i + k)) 160 = true := nb_in (by omega) (by omega)
    have e6 : bv_in (nI (40 * o + j + k)) 160 = true := nb_in (by omega) (by omega)
    rw [b_X8_move_28, if_neg e1, if_neg e2, b_X8_move_53, e0, e3, e4, if_pos e5, if_pos e6, nI_clamp (by omega), nI_clamp (by omega), show nI q + 1 = nI (q + 1) from nI_1 q]
    have hr : bv_set m 73 (fun x => m 73 (40 * s + i + (x - (40 * o + j)))) (40 * o + j + (k + 1)) (40 * o + j + n) 73 (40 * s + i + k) = (fun x => m 73 (40 * s + i + (x - (40 * o + j)))) (40 * o + j + k) := by
      rw [bv_set_out (by omega)]
      show m 73 (40 * s + i + k) = m 73 (40 * s + i + (40 * o + j + k - (40 * o + j)))
      congr 1
      omega
    have hc := bv_set_cons (mi := m) (a := 73) (lo := 40 * o + j + k) (hi := 40 * o + j + n) (f := fun x => m 73 (40 * s + i + (x - (40 * o + j)))) (by omega)
    rw [hr, show 40 * o + j + (k + 1) = 40 * o + j + k + 1 from rfl, hc]
    exact ih (q + 1) fu (by omega) (by omega)
theorem sub_toInt {u : Nat} {x : Int32} (hx : 0 ≤ x.toInt) (hu : u ≤ 40) : (nI u - x).toInt = (u : Int) - x.toInt := by
  rw [Int32.toInt_sub, nI_toInt (by omega), Int.bmod_def]
  have h1 := Int32.toInt_lt x
  split <;> omega
/-- there are n numbers from i on -/
def mv_ok (u : Nat) (i n : Int32) : Prop := 0 ≤ i.toInt ∧ 0 ≤ n.toInt ∧ i.toInt + n.toInt ≤ u
theorem hr7y {s u : Nat} {i n : Int32} {c : bv_Mem} (hs : s < 4) (hu : u ≤ 40) (hc : c (53 + 2 * s) 1 = nI u) (h : mv_ok u i n) : f_X3_hasRun (53 + 2 * s) i n c = some 1 := by
  obtain ⟨h1, h2, h3⟩ := h
  have z : (0 : Int32).toInt = 0 := rfl
  unfold f_X3_hasRun
  rw [if_neg (by rw [i_lt, z]; omega), if_neg (by rw [i_lt, z]; omega), if_pos (sh_rf s hs).2.1, hc, if_neg (by rw [i_lt, sub_toInt h2 hu]; omega)]
theorem hr7n {s u : Nat} {i n : Int32} {c : bv_Mem} (hs : s < 4) (hu : u ≤ 40) (hc : c (53 + 2 * s) 1 = nI u) (h : ¬ mv_ok u i n) : f_X3_hasRun (53 + 2 * s) i n c = some 0 := by
  have z : (0 : Int32).toInt = 0 := rfl
  unfold f_X3_hasRun
  by_cases h1 : i < 0
  · rw [if_pos h1]
  · rw [if_neg h1]
    by_cases h2 : n < 0
    · rw [if_pos h2]
    · rw [if_neg h2, if_pos (sh_rf s hs).2.1, hc]
      rw [i_lt, z] at h1 h2
      rw [if_pos]
      rw [i_lt, sub_toInt (by omega) hu]
      unfold mv_ok at h
      omega
set_option maxHeartbeats 4000000 in
theorem S_move : bv_S_move bv_I := by
  intro p i q j n mi hI
  refine lock (F7 := f_X7_move p i q j n) (F8 := f_X8_move p i q j n) ?_ mi hI
  intro c m h
  by_cases hp : 0 ≤ p ∧ p ≤ 3
  · obtain ⟨s, hs, rfl⟩ := n_of hp (n := 3) rfl
    obtain ⟨h1, h2, h3, h4, h5⟩ := sh_rf s (by omega)
    have e1 : bv_in (nI s) 4 = true := nb_in (by omega) (by omega)
    have e2 : (nI s).toNatClampNeg = s := nI_clamp (by omega)
    obtain ⟨k1, k2, k3, ⟨u, hu, k4⟩, k5⟩ := h.2.2.2.1 s (by omega)
    by_cases hq : 0 ≤ q ∧ q ≤ 3
    · obtain ⟨o, ho, rfl⟩ := n_of hq (n := 3) rfl
      obtain ⟨g1, g2, g3, g4, g5⟩ := sh_rf o (by omega)
      have f1 : bv_in (nI o) 4 = true := nb_in (by omega) (by omega)
      have f2 : (nI o).toNatClampNeg = o := nI_clamp (by omega)
      obtain ⟨l1, l2, l3, ⟨w, hw, l4⟩, l5⟩ := h.2.2.2.1 o (by omega)
      by_cases hb : c (53 + 2 * s) 0 = 0
      · refine out_err 2 (-1000000002) h ?_ ?_
        · simp [f_X7_move, sh7, hp, hq, e1, e2, f1, f2, h1, h2, g1, g2, hb, x7_e2]
        · simp [f_X8_move, f_X8_notMoved, sh8, hp, hq, e1, e2, k1, hb, x8_e2]
      · by_cases hb2 : c (53 + 2 * o) 0 = 0
        · refine out_err 2 (-1000000002) h ?_ ?_
          · simp [f_X7_move, sh7, hp, hq, e1, e2, f1, f2, h1, h2, g1, g2, hb, hb2, x7_e2]
          · simp [f_X8_move, f_X8_notMoved, sh8, hp, hq, e1, e2, f1, f2, k1, l1, hb, hb2, x8_e2]
        · by_cases hk : c (53 + 2 * s) 0 = c (53 + 2 * o) 0
          · by_cases ha : mv_ok u i n
            · by_cases hd : mv_ok w j n
              · obtain ⟨a1, a2, a3⟩ := ha
                obtain ⟨d1, d2, d3⟩ := hd
                obtain ⟨i', hi', rfl⟩ := nI_of (x := i) (by rw [i_lt]; have z : (0 : Int32).toInt = 0 := rfl; omega)
                obtain ⟨j', hj', rfl⟩ := nI_of (x := j) (by rw [i_lt]; have z : (0 : Int32).toInt = 0 := rfl; omega)
                obtain ⟨n', hn', rfl⟩ := nI_of (x := n) (by rw [i_lt]; have z : (0 : Int32).toInt = 0 := rfl; omega)
                have a3' := a3
                have d3' := d3
                rw [nI_toInt hi', nI_toInt hn'] at a3
                rw [nI_toInt hj', nI_toInt hn'] at d3
                have ha : mv_ok u (nI i') (nI n') := ⟨a1, a2, a3'⟩
                have hd : mv_ok w (nI j') (nI n') := ⟨d1, d2, d3'⟩
                have hni : ¬ nI i' < 0 := nI_pos hi'
                have hnj : ¬ nI j' < 0 := nI_pos hj'
                have hnn : ¬ nI n' < 0 := nI_pos hn'
                have hcp : bv_cpok c 0 (54 + 2 * s) (54 + 2 * o) 40 40 (nI i') (nI j') (nI n') = true := by
                  unfold bv_cpok
                  rw [nI_clamp hi', nI_clamp hj', nI_clamp hn']
                  have b0 : Nat.beq 0 0 = true := rfl
                  simp [hni, hnj, hnn, b0]
                  omega
                have r7 : f_X7_move (nI s) (nI i') (nI o) (nI j') (nI n') c = some (nI n', bv_cp c (54 + 2 * s) (54 + 2 * o) i' j' n') := by
                  simp [f_X7_move, sh7, hp, hq, e1, e2, f1, f2, h1, h2, g1, g2, hb2, hk, hr7y (show s < 4 by omega) hu k4 ha, hr7y (show o < 4 by omega) hw l4 hd, h3, h4, h5, g3, g4, g5, hcp, nI_clamp hi', nI_clamp hj', nI_clamp hn']
                have c1 : ¬ nI u - nI i' < nI n' := by rw [i_lt, sub_toInt a1 hu]; omega
                have c2 : ¬ nI w - nI j' < nI n' := by rw [i_lt, sub_toInt d1 hw]; omega
                have nm : f_X8_notMoved (nI s) (nI i') (nI o) (nI j') (nI n') m = some 0 := by
                  simp [f_X8_notMoved, b_X8_notMoved_102, sh8, hp, hq, e1, e2, f1, f2, k1, l1, k2, l2, k4, l4, hb2, hk, hni, hnj, hnn, c1, c2]
                have r8 : f_X8_move (nI s) (nI i') (nI o) (nI j') (nI n') m = some (nI n', bv_set m 73 (fun x => m 73 (40 * s + i' + (x - (40 * o + j')))) (40 * o + j') (40 * o + j' + n')) := by
                  unfold f_X8_move
                  rw [nm]
                  simp only [Option.bind_some, if_true]
                  by_cases hle : j' ≤ i'
                  · have := mv_fwd (s := s) (o := o) (i := i') (j := j') (n := n') m (by omega) (by omega) (by omega) (by omega) hle n' 0 400 (by omega) (by omega)
                    rw [bv_set_nil (by omega)] at this
                    exact this
                  · have := mv_bwd (s := s) (o := o) (i := i') (j := j') (n := n') m (by omega) (by omega) (by omega) (by omega) (by omega) n' 0 400 (by omega) (by omega)
                    rw [bv_set_nil (by omega)] at this
                    exact this
                refine ⟨nI n', _, _, r7, r8, J_S h ?_ ?_ ?_, ?_, ?_⟩
                · intro a ha
                  exact bv_cp_row (by omega)
                · intro a ha
                  exact bv_set_row (by omega)
                · intro t ht
                  obtain ⟨y1, y2, y3, y4, y5⟩ := h.2.2.2.1 t ht
                  refine ⟨?_, ?_, ?_, ?_, fun x hx => ?_⟩
                  · rw [bv_set_row (by omega), bv_cp_row (by omega)]; exact y1
                  · rw [bv_set_row (by omega), bv_cp_row (by omega)]; exact y2
                  · rw [bv_cp_row (by omega)]; exact y3
                  · rw [bv_cp_row (by omega)]; exact y4
                  · by_cases hin : t = o ∧ j' ≤ x ∧ x < j' + n'
                    · obtain ⟨rfl, x1, x2⟩ := hin
                      rw [bv_set_in (by omega)]
                      unfold bv_cp
                      rw [if_pos ⟨rfl, x1, x2⟩]
                      have := k5 (i' + (x - j')) (by omega)
                      have ex : 40 * s + i' + (40 * t + x - (40 * t + j')) = 40 * s + (i' + (x - j')) := by omega
                      rw [ex]
                      exact this
                    · rw [bv_set_out (by omega)]
                      unfold bv_cp
                      rw [if_neg (by omega)]
                      exact y5 x hx
                · intro a ha
                  exact bv_cp_row (by omega)
                · intro a ha
                  exact bv_set_row (by omega)
              · refine out_err 1 (-1000000001) h ?_ ?_
                · simp [f_X7_move, sh7, hp, hq, e1, e2, f1, f2, h1, h2, g1, g2, hb2, hk, hr7y (show s < 4 by omega) hu k4 ha, hr7n (show o < 4 by omega) hw l4 hd, x7_e1]
                · have nm : f_X8_notMoved (nI s) i (nI o) j n m = some (-1000000001) := by
                    have z : (0 : Int32).toInt = 0 := rfl
                    obtain ⟨a1, a2, a3⟩ := ha
                    by_cases b1 : n < 0
                    · simp [f_X8_notMoved, b_X8_notMoved_101, b_X8_notMoved_102, sh8, hp, hq, e1, e2, f1, f2, k1, l1, hb2, hk, b1]
                    · by_cases b2 : i < 0
                      · simp [f_X8_notMoved, b_X8_notMoved_101, b_X8_notMoved_102, sh8, hp, hq, e1, e2, f1, f2, k1, l1, hb2, hk, b1, b2]
                      · by_cases b3 : j < 0
                        · simp [f_X8_notMoved, b_X8_notMoved_101, b_X8_notMoved_102, sh8, hp, hq, e1, e2, f1, f2, k1, l1, hb2, hk, b1, b2, b3]
                        · have c1 : ¬ nI u - i < n := by rw [i_lt, sub_toInt a1 hu]; omega
                          have c2 : nI w - j < n := by
                            rw [i_lt, z] at b3
                            rw [i_lt, sub_toInt (by omega) hw]
                            unfold mv_ok at hd
                            omega
                          simp [f_X8_notMoved, b_X8_notMoved_101, b_X8_notMoved_102, sh8, hp, hq, e1, e2, f1, f2, k1, l1, k2, l2, k4, l4, hb2, hk, b1, b2, b3, c1, c2]
                  simp [f_X8_move, nm, x8_e1]
            · refine out_err 1 (-1000000001) h ?_ ?_
              · simp [f_X7_move, sh7, hp, hq, e1, e2, f1, f2, h1, h2, g1, g2, hb2, hk, hr7n (show s < 4 by omega) hu k4 ha, x7_e1]
              · have nm : f_X8_notMoved (nI s) i (nI o) j n m = some (-1000000001) := by
                  have z : (0 : Int32).toInt = 0 := rfl
                  by_cases b1 : n < 0
                  · simp [f_X8_notMoved, b_X8_notMoved_101, b_X8_notMoved_102, sh8, hp, hq, e1, e2, f1, f2, k1, l1, hb2, hk, b1]
                  · by_cases b2 : i < 0
                    · simp [f_X8_notMoved, b_X8_notMoved_101, b_X8_notMoved_102, sh8, hp, hq, e1, e2, f1, f2, k1, l1, hb2, hk, b1, b2]
                    · by_cases b3 : j < 0
                      · simp [f_X8_notMoved, b_X8_notMoved_101, b_X8_notMoved_102, sh8, hp, hq, e1, e2, f1, f2, k1, l1, hb2, hk, b1, b2, b3]
                      · have c1 : nI u - i < n := by
                          rw [i_lt, z] at b2
                          rw [i_lt, sub_toInt (by omega) hu]
                          rw [i_lt, z] at b1
                          unfold mv_ok at ha
                          omega
                        simp [f_X8_notMoved, b_X8_notMoved_101, b_X8_notMoved_102, sh8, hp, hq, e1, e2, f1, f2, k1, l1, k2, l2, k4, l4, hb2, hk, b1, b2, b3, c1]
                simp [f_X8_move, nm, x8_e1]
          · refine out_err 5 (-1000000005) h ?_ ?_
            · simp [f_X7_move, sh7, hp, hq, e1, e2, f1, f2, h1, h2, g1, g2, hb, hb2, hk, x7_e5]
            · simp [f_X8_move, f_X8_notMoved, sh8, hp, hq, e1, e2, f1, f2, k1, l1, hb, hb2, hk, x8_e5]
    · refine out_err 1 (-1000000001) h ?_ ?_
      · simp [f_X7_move, sh7, hp, hq, x7_e1]
      · simp [f_X8_move, f_X8_notMoved, sh8, hp, hq, x8_e1]
  · refine out_err 1 (-1000000001) h ?_ ?_
    · simp [f_X7_move, sh7, hp, x7_e1]
    · simp [f_X8_move, f_X8_notMoved, sh8, hp, x8_e1]
