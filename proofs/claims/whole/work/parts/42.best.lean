theorem sights7b {c : bv_Mem} {a : Nat} {v : Int32} (ha : a < 20) : f_J6_bitCount_0f7a4 (nI (sp_view (c 3) (th7 c v) a 0 ||| sp_view (c 3) (th7 c v) a 1)) c = some (nI (sp_sights (c 3) (th7 c v) a)) := by
  rw [bc7 (Nat.or_lt_two_pow (view_lt ha) (view_lt ha)), pc_or _ _ _ (fun j hj => view_dis hj)]
  rfl
theorem bd1 {α β : Type} {o : Option α} {x : α} {f : α → Option β} (h : o = some x) : o.bind f = f x := by rw [h]; rfl
theorem best7_s {c : bv_Mem} {i f : Nat} {w b s : Int32} (hi : i < 20) : b_X7_best_35 (f + 1) w (nI (sp_gone c 0)) b s (nI i) c = if nI (sp_sights (c 3) (th7 c 0) i) ≤ s then b_X7_best_35 f w (nI (sp_gone c 0)) b s (nI (i + 1)) c else b_X7_best_35 f w (nI (sp_gone c 0)) (nI i) (nI (sp_sights (c 3) (th7 c 0) i)) (nI (i + 1)) c := by
  have e1 : ¬ (20 : Int32) ≤ nI i := nI_ge (b := 20) (by omega) (by omega)
  rw [b_X7_best_35, if_neg e1, bd1 (around7 hi), bd1 (sights7b hi), show nI i + 1 = nI (i + 1) from nI_1 i]
theorem best8_s {c m : bv_Mem} (h : bv_J c m) {i f : Nat} {w b s : Int32} (hi : i < 20) : b_X8_best_23 (f + 1) w b s (nI i) m = if nI (sp_sights (c 3) (th7 c 0) i) ≤ s then b_X8_best_23 f w b s (nI (i + 1)) m else b_X8_best_23 f w (nI i) (nI (sp_sights (c 3) (th7 c 0) i)) (nI (i + 1)) m := by
  have e1 : ¬ (20 : Int32) ≤ nI i := nI_ge (b := 20) (by omega) (by omega)
  have a8 := sights8 (m := m) (a := i) hi
  rw [sights_now h hi] at a8
  rw [b_X8_best_23, if_neg e1, a8]
  simp only [Option.bind_some]
  by_cases hx : nI (sp_sights (c 3) (th7 c 0) i) ≤ s
  · rw [if_pos hx, if_pos hx, b_X8_best_50, if_pos hx, show nI i + 1 = nI (i + 1) from nI_1 i]
  · rw [if_neg hx, if_neg hx, b_X8_best_50, if_neg hx, show nI i + 1 = nI (i + 1) from nI_1 i]
theorem best_lp {c m : bv_Mem} (h : bv_J c m) (w : Int32) : ∀ (n i f7 f8 : Nat) (b s : Int32), i + n = 20 → n < f7 → n < f8 → ∃ r, b_X7_best_35 f7 w (nI (sp_gone c 0)) b s (nI i) c = some (r, c) ∧ b_X8_best_23 f8 w b s (nI i) m = some (r, m) := by
  intro n
  induction n with
  | zero =>
    intro i f7 f8 b s hi h7 h8
    obtain ⟨f7, rfl⟩ : ∃ k, f7 = k + 1 := ⟨f7 - 1, by omega⟩
    obtain ⟨f8, rfl⟩ : ∃ k, f8 = k + 1 := ⟨f8 - 1, by omega⟩
    have e : i = 20 := by omega
    subst e
    have e20 : (20 : Int32) ≤ nI 20 := by decide
    by_cases hw : w = 0
    · refine ⟨b, ?_, ?_⟩
      · rw [b_X7_best_35, if_pos e20, if_pos hw]
      · rw [b_X8_best_23, if_pos e20, if_pos hw]
    · refine ⟨s, ?_, ?_⟩
      · rw [b_X7_best_35, if_pos e20, if_neg hw]
      · rw [b_X8_best_23, if_pos e20, if_neg hw]
  | succ n ih =>
    intro i f7 f8 b s hi h7 h8
    obtain ⟨f7, rfl⟩ : ∃ k, f7 = k + 1 := ⟨f7 - 1, by omega⟩
    obtain ⟨f8, rfl⟩ : ∃ k, f8 = k + 1 := ⟨f8 - 1, by omega⟩
    rw [best7_s (by omega), best8_s h (by omega)]
    by_cases hx : nI (sp_sights (c 3) (th7 c 0) i) ≤ s
    · rw [if_pos hx, if_pos hx]
      exact ih (i + 1) f7 f8 b s (by omega) (by omega) (by omega)
    · rw [if_neg hx, if_neg hx]
      exact ih (i + 1) f7 f8 _ _ (by omega) (by omega) (by omega)
theorem S_best : bv_S_best bv_I := by
  intro w mi hI
  refine lock (F7 := f_X7_best w) (F8 := f_X8_best w) ?_ mi hI
  intro c m h
  by_cases hw : 0 ≤ w ∧ w ≤ 1
  · obtain ⟨r, q1, q2⟩ := best_lp h w 20 0 400 400 0 (-1) (by omega) (by omega) (by omega)
    rw [nI_0] at q1 q2
    refine out_ro r h ?_ ?_
    · rw [f_X7_best, bd1 (win7y hw c), if_neg (by decide), bd1 (gone7 c 0), q1]
    · rw [f_X8_best, bd1 (win8y hw m), if_neg (by decide), q2]
  · refine out_err 1 (-1000000001) h ?_ ?_
    · simp [f_X7_best, win7n hw, x7_e1]
    · simp [f_X8_best, win8n hw, x8_e1]
