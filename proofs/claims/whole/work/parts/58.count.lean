-- ===== count =====
theorem ob_lp {c m : bv_Mem} {f : Nat} (h : bv_J c m) (hf : f ≤ 8) (ef : c 1 4 = nI f) : ∀ (n i f7 f8 : Nat) (s : Int32), i + n = f → n < f7 → n < f8 → ∃ r, b_X5_openBottles_4 c f7 s (nI i) = some r ∧ b_X8_count_84 f8 s (nI i) m = some (r, m) := by
  have ef8 : m 62 3 = nI f := (RJ_f h).trans ef
  intro n
  induction n with
  | zero =>
    intro i f7 f8 s hi h7 h8
    obtain ⟨f7, rfl⟩ : ∃ k, f7 = k + 1 := ⟨f7 - 1, by omega⟩
    obtain ⟨f8, rfl⟩ : ∃ k, f8 = k + 1 := ⟨f8 - 1, by omega⟩
    have e1 : nI f ≤ nI i := nI_le (by omega) (by omega)
    exact ⟨s, by rw [b_X5_openBottles_4, ef, if_pos e1], by rw [b_X8_count_84, ef8, if_pos e1]⟩
  | succ n ih =>
    intro i f7 f8 s hi h7 h8
    obtain ⟨f7, rfl⟩ : ∃ k, f7 = k + 1 := ⟨f7 - 1, by omega⟩
    obtain ⟨f8, rfl⟩ : ∃ k, f8 = k + 1 := ⟨f8 - 1, by omega⟩
    have e1 : ¬ nI f ≤ nI i := nI_ge (by omega) (by omega)
    obtain ⟨r1, r2⟩ := bo_rf i (by omega)
    obtain ⟨-, -, -, -, -, ⟨o, ho, eo⟩⟩ := WJ_b h (b := i) (by omega)
    have oi : f_X7_oneIf (nI o) c = some (nI o) := by
      have : o = 0 ∨ o = 1 := by omega
      rcases this with rfl | rfl <;> rfl
    have o5 : f_X8_of (nI i) 5 m = some (nI o) := by rw [← eo]; exact of8J (k := 5) h (by omega) (by omega)
    rw [b_X5_openBottles_4, b_X8_count_84, ef, ef8, if_neg e1, if_neg e1, if_pos (nb_in (by omega) (by omega)), nI_clamp (by omega), bd1 r1, if_pos r2, eo, bd1 oi, bd1 o5, show nI i + 1 = nI (i + 1) from nI_1 i]
    exact ih (i + 1) f7 f8 _ (by omega) (by omega) (by omega)
theorem ct_lp {c x : bv_Mem} {f : Nat} (hf : f ≤ 8) (ef : c 1 4 = nI f) (x1 : x 1 4 = nI f) (x52 : ∀ j, j < f → x 52 j = PR c j) : ∀ (n i f7 f8 : Nat) (s : Int32) (m : bv_Mem), bv_J c m → i + n = f → n < f7 → n < f8 → ∃ r m', b_X7_priceTogether_4 x f7 (nI (2 ^ f - 1)) s (nI i) = some r ∧ b_X8_count_113 f8 s (nI i) m = some (r, m') ∧ ∀ a, a ≠ 68 → a ≠ 69 → m' a = m a := by
  have h2 := pw8 hf
  intro n
  induction n with
  | zero =>
    intro i f7 f8 s m h hi h7 h8
    obtain ⟨f7, rfl⟩ : ∃ k, f7 = k + 1 := ⟨f7 - 1, by omega⟩
    obtain ⟨f8, rfl⟩ : ∃ k, f8 = k + 1 := ⟨f8 - 1, by omega⟩
    have ef8 : m 62 3 = nI f := (RJ_f h).trans ef
    have e1 : nI f ≤ nI i := nI_le (by omega) (by omega)
    exact ⟨s, m, by rw [b_X7_priceTogether_4, x1, if_pos e1], by rw [b_X8_count_113, ef8, if_pos e1], fun _ _ _ => rfl⟩
  | succ n ih =>
    intro i f7 f8 s m h hi h7 h8
    obtain ⟨f7, rfl⟩ : ∃ k, f7 = k + 1 := ⟨f7 - 1, by omega⟩
    obtain ⟨f8, rfl⟩ : ∃ k, f8 = k + 1 := ⟨f8 - 1, by omega⟩
    have ef8 : m 62 3 = nI f := (RJ_f h).trans ef
    have e1 : ¬ nI f ≤ nI i := nI_ge (by omega) (by omega)
    have ht : (2 ^ f - 1).testBit i = true := by
      rw [Nat.testBit_two_pow_sub_one]
      exact decide_eq_true (by omega)
    have hz := b_z (X := 2 ^ f - 1) (j := i) (by omega) (by omega)
    have nz : ¬ (nI (2 ^ f - 1) >>> (nI i &&& 31)) &&& 1 = 0 := fun w => by rw [hz.mp w] at ht; cases ht
    obtain ⟨-, m1, -, p2, -, p4⟩ := pr_q h (b := i) (by omega)
    rw [b_X7_priceTogether_4, b_X8_count_113, x1, ef8, if_neg e1, if_neg e1, if_neg nz, if_pos (nb_in (by omega) (by omega)), nI_clamp (by omega), x52 i (by omega), bd1 p2, show nI i + 1 = nI (i + 1) from nI_1 i]
    obtain ⟨r, m', q1, q2, q3⟩ := ih (i + 1) f7 f8 (s + PR c i) m1 (h.same (bt_s7.rf c) (s8_68 p4)) (by omega) (by omega) (by omega)
    exact ⟨r, m', q1, q2, fun a h1 h2 => (q3 a h1 h2).trans (p4 a h1 h2)⟩
theorem S_count : bv_S_count bv_I := by
  intro p mi hI
  refine lock (F7 := f_X7_count p) (F8 := f_X8_count p) ?_ mi hI
  intro c m h
  obtain ⟨f, hf, ef⟩ := WJ_fil h
  have ef8 : m 62 3 = nI f := (RJ_f h).trans ef
  have h2 := pw8 hf
  unfold f_X7_count f_X8_count
  by_cases p0 : p = 0
  · refine out_ro (c 1 2) h ?_ ?_
    · try dsimp only
      rw [if_pos p0]
    · try dsimp only
      rw [if_pos p0, RJ_v h]
  by_cases p1 : p = 1
  · refine out_ro (c 1 4) h ?_ ?_
    · try dsimp only
      rw [if_neg p0, if_pos p1]
    · try dsimp only
      rw [if_neg p0, if_pos p1, RJ_f h]
  by_cases p2 : p = 2
  · refine out_ro (c 1 5) h ?_ ?_
    · try dsimp only
      rw [if_neg p0, if_neg p1, if_pos p2]
    · try dsimp only
      rw [if_neg p0, if_neg p1, if_pos p2, RJ_day h]
  by_cases p3 : p = 3
  · refine out_ro (nI (sp_ct (fun p => !(th7 c 0 p)) 20 0 0)) h ?_ ?_
    · try dsimp only
      rw [if_neg p0, if_neg p1, if_neg p2, if_pos p3, bd1 (miss7 c 0)]
    · try dsimp only
      rw [if_neg p0, if_neg p1, if_neg p2, if_pos p3, bd1 (miss_now h)]
  by_cases p4 : p = 4
  · obtain ⟨r, q1, q2⟩ := ob_lp h hf ef f 0 400 400 0 (by omega) (by omega) (by omega)
    have q1' : f_X5_openBottles c = some r := q1
    refine out_ro r h ?_ ?_
    · try dsimp only
      rw [if_neg p0, if_neg p1, if_neg p2, if_neg p3, if_pos p4, bd1 q1']
    · try dsimp only
      rw [if_neg p0, if_neg p1, if_neg p2, if_neg p3, if_pos p4]
      exact q2
  by_cases p5 : p = 5
  · obtain ⟨x, k1, k2, k3⟩ := wp7 h hf ef f 0 400 c (by omega) (by omega) (fun _ _ _ _ => rfl) (fun j hj => by omega)
    have k1' : f_X7_workOutPrices c = some x := k1
    have x1 : x 1 4 = nI f := by rw [k2 1 (by omega) (by omega) (by omega), ef]
    obtain ⟨r, m', q1, q2, q3⟩ := ct_lp hf ef x1 k3 f 0 400 400 0 m h (by omega) (by omega) (by omega)
    have e1 : (1 : Int32) <<< (nI f &&& 31) - 1 = nI (2 ^ f - 1) := by
      rw [b_one (by omega)]
      exact pk_sub (b := 1) (Nat.two_pow_pos f)
    have q1' : f_X7_priceTogether (nI (2 ^ f - 1)) x = some r := q1
    refine ⟨r, x, m', ?_, ?_, h.same (s7_51 (fun a h1 h2 _ h4 => k2 a h1 h2 h4)) (s8_68 q3), fun a ha => k2 a (by omega) (by omega) (by omega), fun a ha => q3 a (by omega) (by omega)⟩
    · try dsimp only
      rw [if_neg p0, if_neg p1, if_neg p2, if_neg p3, if_neg p4, if_pos p5, bd1 k1', x1, e1, bd1 q1']
    · try dsimp only
      rw [if_neg p0, if_neg p1, if_neg p2, if_neg p3, if_neg p4, if_pos p5]
      exact q2
  by_cases p6 : p = 6
  · refine out_ro (c 7 1) h ?_ ?_
    · try dsimp only
      rw [if_neg p0, if_neg p1, if_neg p2, if_neg p3, if_neg p4, if_neg p5, if_pos p6]
    · try dsimp only
      rw [if_neg p0, if_neg p1, if_neg p2, if_neg p3, if_neg p4, if_neg p5, if_pos p6, RJ_t h]
  by_cases p7 : p = 7
  · refine out_ro (c 1 11) h ?_ ?_
    · try dsimp only
      rw [if_neg p0, if_neg p1, if_neg p2, if_neg p3, if_neg p4, if_neg p5, if_neg p6, if_pos p7]
    · try dsimp only
      rw [if_neg p0, if_neg p1, if_neg p2, if_neg p3, if_neg p4, if_neg p5, if_neg p6, if_pos p7, RJ_w h]
  by_cases p8 : p = 8
  · refine out_ro (c 47 1) h ?_ ?_
    · try dsimp only
      rw [if_neg p0, if_neg p1, if_neg p2, if_neg p3, if_neg p4, if_neg p5, if_neg p6, if_neg p7, if_pos p8]
    · try dsimp only
      rw [if_neg p0, if_neg p1, if_neg p2, if_neg p3, if_neg p4, if_neg p5, if_neg p6, if_neg p7, if_pos p8, h.2.2.2.2.1]
  by_cases p9 : p = 9
  · refine out_ro (c 1 6) h ?_ ?_
    · try dsimp only
      rw [if_neg p0, if_neg p1, if_neg p2, if_neg p3, if_neg p4, if_neg p5, if_neg p6, if_neg p7, if_neg p8, if_pos p9]
    · try dsimp only
      rw [if_neg p0, if_neg p1, if_neg p2, if_neg p3, if_neg p4, if_neg p5, if_neg p6, if_neg p7, if_neg p8, if_pos p9, RJ_z h]
  refine out_err 1 (-1000000001) h ?_ ?_
  · try dsimp only
    rw [if_neg p0, if_neg p1, if_neg p2, if_neg p3, if_neg p4, if_neg p5, if_neg p6, if_neg p7, if_neg p8, if_neg p9, bd1 (x7_e1 c)]
  · try dsimp only
    rw [if_neg p0, if_neg p1, if_neg p2, if_neg p3, if_neg p4, if_neg p5, if_neg p6, if_neg p7, if_neg p8, if_neg p9, bd1 (x8_e1 m)]
