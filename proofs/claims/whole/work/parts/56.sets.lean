-- ===== what is worked out of all bottles =====
theorem s7_51 {c c' : bv_Mem} (h : ∀ x, x ≠ 43 → x ≠ 46 → x ≠ 51 → x ≠ 52 → c' x = c x) : bt_s7 c c' := by
  intro a k ha hs
  rw [h a]
  · rintro rfl
    simp [bt_scr] at hs
  · rintro rfl
    simp [bt_scr] at hs
  · rintro rfl
    simp [bt_scr] at hs
  · rintro rfl
    simp [bt_scr] at hs
theorem lf_same {c c' m : bv_Mem} (h : bv_J c m) (h' : bv_J c' m) {b : Nat} (hb : b < 8) : nI (lf c' b) = nI (lf c b) := by
  have e1 := (lf_J h hb).2.2
  have e2 := (lf_J h' hb).2.2
  rw [e1] at e2
  exact (Option.some.inj e2).symm
def PR (c : bv_Mem) (b : Nat) : Int32 := ((f_X7_priceOf (14 + b) c).getD (0, c)).1
theorem pr_q {c m : bv_Mem} (h : bv_J c m) {b : Nat} (hb : b < 8) : ∃ c' m', f_X7_priceOf (14 + b) c = some (PR c b, c') ∧ f_X8_costsOf (nI b) m = some (PR c b, m') ∧ (∀ x, x ≠ 43 → x ≠ 46 → c' x = c x) ∧ (∀ x, x ≠ 68 → x ≠ 69 → m' x = m x) := by
  obtain ⟨v, c', m', h1, h2, h3, h4⟩ := pr_J h hb
  have e : PR c b = v := by
    unfold PR
    rw [h1]
    rfl
  rw [e]
  exact ⟨c', m', h1, h2, h3, h4⟩
theorem pr_same {c c' m : bv_Mem} (h : bv_J c m) (h' : bv_J c' m) {b : Nat} (hb : b < 8) : PR c' b = PR c b := by
  obtain ⟨-, m1, -, e1, -, -⟩ := pr_q h hb
  obtain ⟨-, m2, -, e2, -, -⟩ := pr_q h' hb
  rw [e1] at e2
  exact (congrArg Prod.fst (Option.some.inj e2)).symm
theorem wl7 {c m : bv_Mem} {f : Nat} (h : bv_J c m) (hf : f ≤ 8) (ef : c 1 4 = nI f) : ∀ (n i fu : Nat) (x : bv_Mem), i + n = f → n < fu → (∀ a, a ≠ 51 → x a = c a) → (∀ j, j < i → x 51 j = nI (lf c j)) → ∃ x', b_X7_workOutLefts_2 fu (nI i) x = some x' ∧ (∀ a, a ≠ 51 → x' a = c a) ∧ ∀ j, j < f → x' 51 j = nI (lf c j) := by
  intro n
  induction n with
  | zero =>
    intro i fu x hi hfu hx hj
    obtain ⟨fu, rfl⟩ : ∃ k, fu = k + 1 := ⟨fu - 1, by omega⟩
    refine ⟨x, ?_, hx, fun j hl => hj j (by omega)⟩
    rw [b_X7_workOutLefts_2, hx 1 (by omega), ef, if_pos (nI_le (by omega) (by omega))]
  | succ n ih =>
    intro i fu x hi hfu hx hj
    obtain ⟨fu, rfl⟩ : ∃ k, fu = k + 1 := ⟨fu - 1, by omega⟩
    obtain ⟨r1, r2⟩ := bo_rf i (by omega)
    have hJ : bv_J x m := h.same (s7_51 (fun a _ _ h3 _ => hx a h3)) (bt_s8.rf m)
    have l7 := (lf_J hJ (b := i) (by omega)).2.1
    rw [lf_same h hJ (by omega)] at l7
    rw [b_X7_workOutLefts_2, hx 1 (by omega), ef, if_neg (nI_ge (by omega) (by omega)), if_pos (nb_in (by omega) (by omega)), nI_clamp (by omega), bd1 r1, if_pos r2, bd1 l7, show nI i + 1 = nI (i + 1) from nI_1 i]
    refine ih (i + 1) fu _ (by omega) (by omega) (fun a ha => by rw [bv_up_row ha]; exact hx a ha) (fun j hl => ?_)
    by_cases e : j = i
    · subst e
      rw [bv_up_eq]
    · rw [bv_up_nn (by omega)]
      exact hj j (by omega)
theorem wp7 {c m : bv_Mem} {f : Nat} (h : bv_J c m) (hf : f ≤ 8) (ef : c 1 4 = nI f) : ∀ (n i fu : Nat) (x : bv_Mem), i + n = f → n < fu → (∀ a, a ≠ 43 → a ≠ 46 → a ≠ 52 → x a = c a) → (∀ j, j < i → x 52 j = PR c j) → ∃ x', b_X7_workOutPrices_2 fu (nI i) x = some x' ∧ (∀ a, a ≠ 43 → a ≠ 46 → a ≠ 52 → x' a = c a) ∧ ∀ j, j < f → x' 52 j = PR c j := by
  intro n
  induction n with
  | zero =>
    intro i fu x hi hfu hx hj
    obtain ⟨fu, rfl⟩ : ∃ k, fu = k + 1 := ⟨fu - 1, by omega⟩
    refine ⟨x, ?_, hx, fun j hl => hj j (by omega)⟩
    rw [b_X7_workOutPrices_2, hx 1 (by omega) (by omega) (by omega), ef, if_pos (nI_le (by omega) (by omega))]
  | succ n ih =>
    intro i fu x hi hfu hx hj
    obtain ⟨fu, rfl⟩ : ∃ k, fu = k + 1 := ⟨fu - 1, by omega⟩
    obtain ⟨r1, r2⟩ := bo_rf i (by omega)
    have hJ : bv_J x m := h.same (s7_51 (fun a h1 h2 _ h4 => hx a h1 h2 h4)) (bt_s8.rf m)
    obtain ⟨x1, -, p1, -, p3, -⟩ := pr_q hJ (b := i) (by omega)
    rw [pr_same h hJ (by omega)] at p1
    rw [b_X7_workOutPrices_2, hx 1 (by omega) (by omega) (by omega), ef, if_neg (nI_ge (by omega) (by omega)), if_pos (nb_in (by omega) (by omega)), nI_clamp (by omega), bd1 r1, bd1 p1, show nI i + 1 = nI (i + 1) from nI_1 i]
    dsimp only
    refine ih (i + 1) fu _ (by omega) (by omega) (fun a h1 h2 h3 => by rw [bv_up_row h3, p3 a h1 h2]; exact hx a h1 h2 h3) (fun j hl => ?_)
    by_cases e : j = i
    · subst e
      rw [bv_up_eq]
    · rw [bv_up_nn (by omega), p3 52 (by omega) (by omega)]
      exact hj j (by omega)
-- ===== cover =====
theorem la_lp {c m x : bv_Mem} {f S : Nat} {k : Int32 → Int32 → Int32 → bv_Mem → Option (Int32 × bv_Mem)} {l1 l2 : Int32} (h : bv_J c m) (hf : f ≤ 8) (ef : c 1 4 = nI f) (hS : S < 256) (x1 : x 1 4 = nI f) (x51 : ∀ j, j < f → x 51 j = nI (lf c j)) : ∀ (n i f7 f8 : Nat) (A : Int32), i + n = f → n < f7 → n < f8 → ∃ (B : Int32) (f8' : Nat), b_X7_leftInAny_4 x f7 (nI S) A (nI i) = some B ∧ b_X8_cover_39 k f8 l1 l2 (nI S) A (nI i) m = b_X8_cover_39 k (f8' + 1) l1 l2 (nI S) B (nI f) m := by
  have ef8 : m 62 3 = nI f := (RJ_f h).trans ef
  intro n
  induction n with
  | zero =>
    intro i f7 f8 A hi h7 h8
    obtain ⟨f7, rfl⟩ : ∃ k, f7 = k + 1 := ⟨f7 - 1, by omega⟩
    obtain ⟨f8, rfl⟩ : ∃ k, f8 = k + 1 := ⟨f8 - 1, by omega⟩
    have e : i = f := by omega
    subst e
    exact ⟨A, f8, by rw [b_X7_leftInAny_4, x1, if_pos (nI_le (by omega) (by omega))], rfl⟩
  | succ n ih =>
    intro i f7 f8 A hi h7 h8
    obtain ⟨f7, rfl⟩ : ∃ k, f7 = k + 1 := ⟨f7 - 1, by omega⟩
    obtain ⟨f8, rfl⟩ : ∃ k, f8 = k + 1 := ⟨f8 - 1, by omega⟩
    have e1 : ¬ nI f ≤ nI i := nI_ge (by omega) (by omega)
    have hz := b_z (X := S) (j := i) (by omega) (by omega)
    have ho := b_o (X := S) (j := i) (by omega) (by omega)
    have l8 := (lf_J h (b := i) (by omega)).2.2
    rw [b_X7_leftInAny_4, b_X8_cover_39, x1, ef8, if_neg e1, if_neg e1, show nI i + 1 = nI (i + 1) from nI_1 i]
    cases ht : S.testBit i with
    | false =>
      rw [if_pos (hz.mpr ht), if_neg (fun w => by rw [ho.mp w] at ht; cases ht), Int32.or_zero]
      exact ih (i + 1) f7 f8 A (by omega) (by omega) (by omega)
    | true =>
      rw [if_neg (fun w => by rw [hz.mp w] at ht; cases ht), if_pos (ho.mpr ht), if_pos (nb_in (by omega) (by omega)), nI_clamp (by omega), x51 i (by omega), bd1 l8]
      exact ih (i + 1) f7 f8 _ (by omega) (by omega) (by omega)
theorem pw8 {f : Nat} (hf : f ≤ 8) : 2 ^ f ≤ 256 := Nat.pow_le_pow_right (by omega) hf
theorem c105 {k : Int32 → Int32 → Int32 → bv_Mem → Option (Int32 × bv_Mem)} {l1 l2 l3 : Int32} {m : bv_Mem} : b_X8_cover_105 k l1 l2 l3 m = k l1 l3 (l3 + 1) m := by
  rw [b_X8_cover_105, b_X8_cover_110, if_neg (by decide)]
theorem c109 {k : Int32 → Int32 → Int32 → bv_Mem → Option (Int32 × bv_Mem)} {l1 l2 l3 : Int32} {m : bv_Mem} : b_X8_cover_109 k l1 l2 l3 m = k l1 l2 (l3 + 1) m := by
  rw [b_X8_cover_109, b_X8_cover_110, if_pos rfl]
theorem cov_lp {c m x : bv_Mem} {f : Nat} {l1 : Int32} (h : bv_J c m) (hf : f ≤ 8) (ef : c 1 4 = nI f) (hx : ∀ a, a ≠ 51 → x a = c a) (x51 : ∀ j, j < f → x 51 j = nI (lf c j)) : ∀ (n S f7 f8 : Nat) (l2 : Int32), S + n = 2 ^ f → n < f7 → n < f8 → (l2 < 0 ∨ ∃ B, B < 256 ∧ l2 = nI B) → bv_out (b_X7_cover_24 f7 l1 l2 (nI S)) (b_X8_cover_21 f8 l1 l2 (nI S)) x m := by
  have ef8 : m 62 3 = nI f := (RJ_f h).trans ef
  have x1 : x 1 4 = nI f := by rw [hx 1 (by omega), ef]
  have hJ : bv_J x m := h.same (s7_51 (fun a _ _ h3 _ => hx a h3)) (bt_s8.rf m)
  have h2 := pw8 hf
  intro n
  induction n with
  | zero =>
    intro S f7 f8 l2 hS h7 h8 hl
    obtain ⟨f7, rfl⟩ : ∃ k, f7 = k + 1 := ⟨f7 - 1, by omega⟩
    obtain ⟨f8, rfl⟩ : ∃ k, f8 = k + 1 := ⟨f8 - 1, by omega⟩
    have e1 : nI (2 ^ f) ≤ nI S := nI_le (by omega) (by omega)
    by_cases hl0 : 0 ≤ l2
    · refine out_ro l2 hJ ?_ ?_
      · rw [b_X7_cover_24, x1, b_one (by omega), if_pos e1, if_pos hl0]
      · rw [b_X8_cover_21, ef8, b_one (by omega), if_pos e1, if_pos hl0]
    · refine out_err 2 (-1000000002) hJ ?_ ?_
      · rw [b_X7_cover_24, x1, b_one (by omega), if_pos e1, if_neg hl0, bd1 (x7_e2 x)]
      · rw [b_X8_cover_21, ef8, b_one (by omega), if_pos e1, if_neg hl0, bd1 (x8_e2 m)]
  | succ n ih =>
    intro S f7 f8 l2 hS h7 h8 hl
    obtain ⟨f7, rfl⟩ : ∃ k, f7 = k + 1 := ⟨f7 - 1, by omega⟩
    obtain ⟨f8, rfl⟩ : ∃ k, f8 = k + 1 := ⟨f8 - 1, by omega⟩
    have e1 : ¬ nI (2 ^ f) ≤ nI S := nI_ge (by omega) (by omega)
    obtain ⟨B, g8, q1, q2⟩ := la_lp (k := b_X8_cover_21 f8) (l1 := l1) (l2 := l2) h hf ef (S := S) (by omega) x1 x51 f 0 400 400 0 (by omega) (by omega) (by omega)
    have q1' : f_X7_leftInAny (nI S) x = some B := q1
    have go := ih (S + 1) f7 f8 l2 (by omega) (by omega) (by omega) hl
    have go2 := ih (S + 1) f7 f8 (nI S) (by omega) (by omega) (by omega) (Or.inr ⟨S, by omega, rfl⟩)
    have e21 : b_X8_cover_21 (f8 + 1) l1 l2 (nI S) m = b_X8_cover_39 (b_X8_cover_21 f8) (g8 + 1) l1 l2 (nI S) B (nI f) m := by
      rw [b_X8_cover_21, ef8, b_one (by omega), if_neg e1]
      exact q2
    have eS : nI S + 1 = nI (S + 1) := nI_1 S
    have e57 : b_X7_cover_52 (b_X7_cover_24 f7) l1 l2 (nI S) x = if l1 &&& (B ^^^ (-1)) = 0 then b_X7_cover_24 f7 l1 (nI S) (nI (S + 1)) x else b_X7_cover_24 f7 l1 l2 (nI (S + 1)) x := by
      rw [b_X7_cover_52, b_X7_cover_57, if_neg (by decide), bd1 q1', eS]
    have ch : ∀ (T7 T8 : Option (Int32 × bv_Mem)), b_X7_cover_24 (f7 + 1) l1 l2 (nI S) x = T7 → b_X8_cover_21 (f8 + 1) l1 l2 (nI S) m = T8 → ((T7 = b_X7_cover_24 f7 l1 l2 (nI (S + 1)) x ∧ T8 = b_X8_cover_21 f8 l1 l2 (nI (S + 1)) m) ∨ (T7 = b_X7_cover_24 f7 l1 (nI S) (nI (S + 1)) x ∧ T8 = b_X8_cover_21 f8 l1 (nI S) (nI (S + 1)) m)) → bv_out (b_X7_cover_24 (f7 + 1) l1 l2 (nI S)) (b_X8_cover_21 (f8 + 1) l1 l2 (nI S)) x m := by
      intro T7 T8 t7 t8 hT
      rcases hT with ⟨w1, w2⟩ | ⟨w1, w2⟩
      · obtain ⟨r, c', m', k1, k2, k3⟩ := go
        exact ⟨r, c', m', by rw [t7, w1, k1], by rw [t8, w2, k2], k3⟩
      · obtain ⟨r, c', m', k1, k2, k3⟩ := go2
        exact ⟨r, c', m', by rw [t7, w1, k1], by rw [t8, w2, k2], k3⟩
    have s7 : b_X7_cover_24 (f7 + 1) l1 l2 (nI S) x = if l2 < 0 then b_X7_cover_52 (b_X7_cover_24 f7) l1 l2 (nI S) x else (f_J6_bitCount_0f7a4 (nI S) x).bind fun z2 => (f_J6_bitCount_0f7a4 l2 x).bind fun z3 => if z3 ≤ z2 then b_X7_cover_57 (b_X7_cover_24 f7) l1 l2 (nI S) 0 x else b_X7_cover_52 (b_X7_cover_24 f7) l1 l2 (nI S) x := by
      rw [b_X7_cover_24, x1, b_one (by omega), if_neg e1]
    have s8 : b_X8_cover_21 (f8 + 1) l1 l2 (nI S) m = if l1 &&& (B ^^^ (-1)) = 0 then (if l2 < 0 then b_X8_cover_21 f8 l1 (nI S) (nI (S + 1)) m else (f_X8_bits (nI S) m).bind fun z1 => (f_X8_bits l2 m).bind fun z2 => if z2 ≤ z1 then b_X8_cover_21 f8 l1 l2 (nI (S + 1)) m else b_X8_cover_21 f8 l1 (nI S) (nI (S + 1)) m) else b_X8_cover_21 f8 l1 l2 (nI (S + 1)) m := by
      rw [e21, b_X8_cover_39, ef8, if_pos (nI_le (by omega) (by omega)), c105, c109, eS]
    refine ch _ _ s7 s8 ?_
    by_cases hl0 : l2 < 0
    · rw [if_pos hl0, if_pos hl0, e57]
      by_cases hc : l1 &&& (B ^^^ (-1)) = 0
      · rw [if_pos hc, if_pos hc]
        exact Or.inr ⟨rfl, rfl⟩
      · rw [if_neg hc, if_neg hc]
        exact Or.inl ⟨rfl, rfl⟩
    · obtain ⟨C, hC, eC⟩ := hl.resolve_left hl0
      have b1 : f_J6_bitCount_0f7a4 l2 x = some (nI (sp_pc 20 C)) := by rw [eC]; exact bc7 (by omega) x
      have b2 : f_X8_bits l2 m = some (nI (sp_pc 20 C)) := by rw [eC]; exact bits8 (by omega)
      rw [if_neg hl0, if_neg hl0, bd1 (bc7 (show S < 2 ^ 20 by omega) x), bd1 b1, bd1 (bits8 (show S < 2 ^ 20 by omega)), bd1 b2, e57]
      by_cases hq : nI (sp_pc 20 C) ≤ nI (sp_pc 20 S)
      · rw [if_pos hq, if_pos hq, b_X7_cover_57, if_pos rfl, eS]
        by_cases hc : l1 &&& (B ^^^ (-1)) = 0
        · rw [if_pos hc]
          exact Or.inl ⟨rfl, rfl⟩
        · rw [if_neg hc]
          exact Or.inl ⟨rfl, rfl⟩
      · rw [if_neg hq, if_neg hq]
        by_cases hc : l1 &&& (B ^^^ (-1)) = 0
        · rw [if_pos hc, if_pos hc]
          exact Or.inr ⟨rfl, rfl⟩
        · rw [if_neg hc, if_neg hc]
          exact Or.inl ⟨rfl, rfl⟩
theorem S_cover : bv_S_cover bv_I := by
  intro p mi hI
  refine lock (F7 := f_X7_cover p) (F8 := f_X8_cover p) ?_ mi hI
  intro c m h
  obtain ⟨f, hf, ef⟩ := WJ_fil h
  have h2 := pw8 hf
  by_cases hp : 0 ≤ p ∧ p ≤ 1048575
  · have w7 : f_X7_isWithin p 0 1048575 c = some 1 := by rw [win7, if_pos hp]
    have w8 : f_X8_in p 0 1048575 m = some 1 := by rw [win8, if_pos hp]
    obtain ⟨x, k1, k2, k3⟩ := wl7 h hf ef f 0 400 c (by omega) (by omega) (fun _ _ => rfl) (fun j hj => by omega)
    have k1' : f_X7_workOutLefts c = some x := k1
    obtain ⟨r, c', m', q1, q2, q3, q4, q5⟩ := cov_lp (l1 := p) h hf ef k2 k3 (2 ^ f) 0 400 400 (-1) (by omega) (by omega) (by omega) (Or.inl (by decide))
    refine ⟨r, c', m', ?_, ?_, q3, fun a ha => (q4 a ha).trans (k2 a (by omega)), q5⟩
    · unfold f_X7_cover
      rw [bd1 w7, if_neg (by decide), bd1 k1']
      exact q1
    · unfold f_X8_cover
      rw [bd1 w8, if_neg (by decide)]
      exact q2
  · have w7 : f_X7_isWithin p 0 1048575 c = some 0 := by rw [win7, if_neg hp]
    have w8 : f_X8_in p 0 1048575 m = some 0 := by rw [win8, if_neg hp]
    refine out_err 1 (-1000000001) h ?_ ?_
    · unfold f_X7_cover
      rw [bd1 w7, if_pos rfl, bd1 (x7_e1 c)]
    · unfold f_X8_cover
      rw [bd1 w8, if_pos rfl, bd1 (x8_e1 m)]
-- ===== keeps =====
theorem pt_tot {x : bv_Mem} {f S : Nat} (hf : f ≤ 8) (x1 : x 1 4 = nI f) : ∀ (n i f7 : Nat) (s : Int32), i + n = f → n < f7 → ∃ w, b_X7_priceTogether_4 x f7 (nI S) s (nI i) = some w := by
  intro n
  induction n with
  | zero =>
    intro i f7 s hi h7
    obtain ⟨f7, rfl⟩ : ∃ k, f7 = k + 1 := ⟨f7 - 1, by omega⟩
    exact ⟨s, by rw [b_X7_priceTogether_4, x1, if_pos (nI_le (by omega) (by omega))]⟩
  | succ n ih =>
    intro i f7 s hi h7
    obtain ⟨f7, rfl⟩ : ∃ k, f7 = k + 1 := ⟨f7 - 1, by omega⟩
    rw [b_X7_priceTogether_4, x1, if_neg (nI_ge (by omega) (by omega)), if_pos (nb_in (by omega) (by omega)), show nI i + 1 = nI (i + 1) from nI_1 i]
    split
    · exact ih (i + 1) f7 _ (by omega) (by omega)
    · exact ih (i + 1) f7 _ (by omega) (by omega)
theorem wo_lp {c x : bv_Mem} {f S : Nat} (hf : f ≤ 8) (ef : c 1 4 = nI f) (hS : S < 256) (x1 : x 1 4 = nI f) (x51 : ∀ j, j < f → x 51 j = nI (lf c j)) (x52 : ∀ j, j < f → x 52 j = PR c j) : ∀ (n i f7 f8 : Nat) (A s : Int32) (m : bv_Mem), bv_J c m → i + n = f → n < f7 → n < f8 → ∃ v m', b_X8_worth_7 f8 (nI S) A s (nI i) m = some (v, m') ∧ (∀ a, a ≠ 68 → a ≠ 69 → m' a = m a) ∧ ((b_X7_isApart_4 x f7 (nI S) A (nI i) = some 1 ∧ b_X7_priceTogether_4 x f7 (nI S) s (nI i) = some v) ∨ (b_X7_isApart_4 x f7 (nI S) A (nI i) = some 0 ∧ v = -1)) := by
  intro n
  induction n with
  | zero =>
    intro i f7 f8 A s m h hi h7 h8
    obtain ⟨f7, rfl⟩ : ∃ k, f7 = k + 1 := ⟨f7 - 1, by omega⟩
    obtain ⟨f8, rfl⟩ : ∃ k, f8 = k + 1 := ⟨f8 - 1, by omega⟩
    have ef8 : m 62 3 = nI f := (RJ_f h).trans ef
    have e1 : nI f ≤ nI i := nI_le (by omega) (by omega)
    refine ⟨s, m, ?_, fun _ _ _ => rfl, Or.inl ⟨?_, ?_⟩⟩
    · rw [b_X8_worth_7, ef8, if_pos e1]
    · rw [b_X7_isApart_4, x1, if_pos e1]
    · rw [b_X7_priceTogether_4, x1, if_pos e1]
  | succ n ih =>
    intro i f7 f8 A s m h hi h7 h8
    obtain ⟨f7, rfl⟩ : ∃ k, f7 = k + 1 := ⟨f7 - 1, by omega⟩
    obtain ⟨f8, rfl⟩ : ∃ k, f8 = k + 1 := ⟨f8 - 1, by omega⟩
    have ef8 : m 62 3 = nI f := (RJ_f h).trans ef
    have e1 : ¬ nI f ≤ nI i := nI_ge (by omega) (by omega)
    have hz := b_z (X := S) (j := i) (by omega) (by omega)
    have ho := b_o (X := S) (j := i) (by omega) (by omega)
    have l8 := (lf_J h (b := i) (by omega)).2.2
    obtain ⟨-, m1, -, p2, -, p4⟩ := pr_q h (b := i) (by omega)
    rw [b_X8_worth_7, b_X7_isApart_4, b_X7_priceTogether_4, x1, ef8, if_neg e1, if_neg e1, if_neg e1, show nI i + 1 = nI (i + 1) from nI_1 i]
    cases ht : S.testBit i with
    | false =>
      rw [if_neg (fun w => by rw [ho.mp w] at ht; cases ht), if_pos (hz.mpr ht), if_pos (hz.mpr ht)]
      exact ih (i + 1) f7 f8 A s m h (by omega) (by omega) (by omega)
    | true =>
      have nz : ¬ (nI S >>> (nI i &&& 31)) &&& 1 = 0 := fun w => by rw [hz.mp w] at ht; cases ht
      have i8 : bv_in (nI i) 8 = true := nb_in (by omega) (by omega)
      rw [if_pos (ho.mpr ht), if_neg nz, if_neg nz, if_pos i8, if_pos i8, nI_clamp (by omega), x51 i (by omega), x52 i (by omega), bd1 l8]
      by_cases hA : A &&& nI (lf c i) = 0
      · rw [if_pos hA, if_pos hA, bd1 p2]
        obtain ⟨v, m', q1, q2, q3⟩ := ih (i + 1) f7 f8 (A ||| nI (lf c i)) (s + PR c i) m1 (h.same (bt_s7.rf c) (s8_68 p4)) (by omega) (by omega) (by omega)
        exact ⟨v, m', q1, fun a h1 h2 => (q2 a h1 h2).trans (p4 a h1 h2), q3⟩
      · rw [if_neg hA, if_neg hA]
        exact ⟨-1, m, rfl, fun _ _ _ => rfl, Or.inr ⟨rfl, rfl⟩⟩
theorem kp_lp {c x : bv_Mem} {f : Nat} {l1 : Int32} (hf : f ≤ 8) (ef : c 1 4 = nI f) (x1 : x 1 4 = nI f) (x51 : ∀ j, j < f → x 51 j = nI (lf c j)) (x52 : ∀ j, j < f → x 52 j = PR c j) : ∀ (n S f7 f8 : Nat) (b q : Int32) (m : bv_Mem), bv_J c m → S + n = 2 ^ f → n < f7 → n < f8 → 0 ≤ q → ∃ r m', b_X7_keeps_30 f7 l1 b q (nI S) x = some (r, x) ∧ b_X8_keeps_23 f8 l1 b q (nI S) m = some (r, m') ∧ ∀ a, a ≠ 68 → a ≠ 69 → m' a = m a := by
  have h2 := pw8 hf
  intro n
  induction n with
  | zero =>
    intro S f7 f8 b q m h hS h7 h8 hq
    obtain ⟨f7, rfl⟩ : ∃ k, f7 = k + 1 := ⟨f7 - 1, by omega⟩
    obtain ⟨f8, rfl⟩ : ∃ k, f8 = k + 1 := ⟨f8 - 1, by omega⟩
    have ef8 : m 62 3 = nI f := (RJ_f h).trans ef
    have e1 : nI (2 ^ f) ≤ nI S := nI_le (by omega) (by omega)
    rw [b_X7_keeps_30, b_X8_keeps_23, x1, ef8, b_one (by omega), if_pos e1, if_pos e1]
    by_cases hl : l1 = 0
    · rw [if_pos hl, if_pos hl]
      exact ⟨b, m, rfl, rfl, fun _ _ _ => rfl⟩
    · rw [if_neg hl, if_neg hl]
      exact ⟨q, m, rfl, rfl, fun _ _ _ => rfl⟩
  | succ n ih =>
    intro S f7 f8 b q m h hS h7 h8 hq
    obtain ⟨f7, rfl⟩ : ∃ k, f7 = k + 1 := ⟨f7 - 1, by omega⟩
    obtain ⟨f8, rfl⟩ : ∃ k, f8 = k + 1 := ⟨f8 - 1, by omega⟩
    have ef8 : m 62 3 = nI f := (RJ_f h).trans ef
    have e1 : ¬ nI (2 ^ f) ≤ nI S := nI_ge (by omega) (by omega)
    obtain ⟨v, m1, p1, p2, p3⟩ := wo_lp (x := x) hf ef (S := S) (by omega) x1 x51 x52 f 0 400 400 0 0 m h (by omega) (by omega) (by omega)
    have p1' : f_X8_worth (nI S) m = some (v, m1) := p1
    have hJ1 : bv_J c m1 := h.same (bt_s7.rf c) (s8_68 p2)
    have eS : nI S + 1 = nI (S + 1) := nI_1 S
    have go : ∀ b' q', 0 ≤ q' → ∃ r m', b_X7_keeps_30 f7 l1 b' q' (nI (S + 1)) x = some (r, x) ∧ b_X8_keeps_23 f8 l1 b' q' (nI (S + 1)) m1 = some (r, m') ∧ ∀ a, a ≠ 68 → a ≠ 69 → m' a = m a := by
      intro b' q' hq'
      obtain ⟨r, m', t1, t2, t3⟩ := ih (S + 1) f7 f8 b' q' m1 hJ1 (by omega) (by omega) (by omega) hq'
      exact ⟨r, m', t1, t2, fun a h1 h2 => (t3 a h1 h2).trans (p2 a h1 h2)⟩
    rw [b_X7_keeps_30, b_X8_keeps_23, x1, ef8, b_one (by omega), if_neg e1, if_neg e1, bd1 p1', b_X8_keeps_56, b_X8_keeps_56, eS]
    dsimp only
    rcases p3 with ⟨w1, w2⟩ | ⟨w1, w2⟩
    · have w1' : f_X7_isApart (nI S) x = some 1 := w1
      have w2' : f_X7_priceTogether (nI S) x = some v := w2
      rw [bd1 w2']
      by_cases hv : v ≤ q
      · rw [if_pos hv, if_pos hv, if_pos hv]
        exact go b q hq
      · rw [if_neg hv, if_neg hv, if_neg hv, bd1 w1', if_neg (by decide)]
        exact go (nI S) v (by
          have a := i_lt.mp (i_nle.mp hv)
          have b := i_le.mp hq
          exact i_le.mpr (by omega))
    · have w1' : f_X7_isApart (nI S) x = some 0 := w1
      obtain ⟨w, hw⟩ := pt_tot (S := S) hf x1 f 0 400 0 (by omega) (by omega)
      have hw' : f_X7_priceTogether (nI S) x = some w := hw
      have hv : v ≤ q := by
        rw [w2]
        have b := i_le.mp hq
        have e0 : (0 : Int32).toInt = 0 := rfl
        have em : (-1 : Int32).toInt = -1 := by decide
        exact i_le.mpr (by omega)
      rw [bd1 hw', bd1 w1', if_pos rfl, if_pos hv, if_pos hv]
      by_cases hh : w ≤ q
      · rw [if_pos hh]
        exact go b q hq
      · rw [if_neg hh]
        exact go b q hq
theorem S_keeps : bv_S_keeps bv_I := by
  intro p mi hI
  refine lock (F7 := f_X7_keeps p) (F8 := f_X8_keeps p) ?_ mi hI
  intro c m h
  obtain ⟨f, hf, ef⟩ := WJ_fil h
  have h2 := pw8 hf
  by_cases hp : 0 ≤ p ∧ p ≤ 1
  · have w7 : f_X7_isWithin p 0 1 c = some 1 := by rw [win7, if_pos hp]
    have w8 : f_X8_in p 0 1 m = some 1 := by rw [win8, if_pos hp]
    obtain ⟨x, k1, k2, k3⟩ := wl7 h hf ef f 0 400 c (by omega) (by omega) (fun _ _ => rfl) (fun j hj => by omega)
    have k1' : f_X7_workOutLefts c = some x := k1
    have hJx : bv_J x m := h.same (s7_51 (fun a _ _ h3 _ => k2 a h3)) (bt_s8.rf m)
    have exf : x 1 4 = nI f := by rw [k2 1 (by omega), ef]
    obtain ⟨y, q1, q2, q3⟩ := wp7 hJx hf exf f 0 400 x (by omega) (by omega) (fun _ _ _ _ => rfl) (fun j hj => by omega)
    have q1' : f_X7_workOutPrices x = some y := q1
    have y1 : y 1 4 = nI f := by rw [q2 1 (by omega) (by omega) (by omega), exf]
    have y51 : ∀ j, j < f → y 51 j = nI (lf c j) := fun j hj => by rw [q2 51 (by omega) (by omega) (by omega)]; exact k3 j hj
    have y52 : ∀ j, j < f → y 52 j = PR c j := fun j hj => by rw [q3 j hj]; exact pr_same h hJx (by omega)
    have hJy : bv_J y m := hJx.same (s7_51 (fun a h1 h2 _ h4 => q2 a h1 h2 h4)) (bt_s8.rf m)
    -- the set 0 is dear nothing
    have z7 : b_X7_keeps_30 400 p 0 0 (nI 0) y = b_X7_keeps_30 399 p 0 0 (nI 1) y := by
      have e1 : ¬ nI (2 ^ f) ≤ nI 0 := nI_ge (Nat.two_pow_pos f) (by omega)
      have pt : ∀ (n i f7 : Nat), i + n = f → n < f7 → b_X7_priceTogether_4 y f7 (nI 0) 0 (nI i) = some 0 := by
        intro n
        induction n with
        | zero =>
          intro i f7 hi h7
          obtain ⟨f7, rfl⟩ : ∃ k, f7 = k + 1 := ⟨f7 - 1, by omega⟩
          rw [b_X7_priceTogether_4, y1, if_pos (nI_le (by omega) (by omega))]
        | succ n ih =>
          intro i f7 hi h7
          obtain ⟨f7, rfl⟩ : ∃ k, f7 = k + 1 := ⟨f7 - 1, by omega⟩
          rw [b_X7_priceTogether_4, y1, if_neg (nI_ge (by omega) (by omega)), if_pos ((b_z (X := 0) (j := i) (by omega) (by omega)).mpr (Nat.zero_testBit i)), show nI i + 1 = nI (i + 1) from nI_1 i]
          exact ih (i + 1) f7 (by omega) (by omega)
      have pt' : f_X7_priceTogether (nI 0) y = some 0 := pt f 0 400 (by omega) (by omega)
      rw [show (400 : Nat) = 399 + 1 from rfl, b_X7_keeps_30, y1, b_one (by omega), if_neg e1, bd1 pt', if_pos (by decide)]
      rfl
    obtain ⟨r, m', t1, t2, t3⟩ := kp_lp (l1 := p) hf ef y1 y51 y52 (2 ^ f - 1) 1 399 400 0 0 m h (by have := Nat.two_pow_pos f; omega) (by omega) (by omega) (by decide)
    refine ⟨r, y, m', ?_, ?_, hJy.same (bt_s7.rf y) (s8_68 t3), fun a ha => by rw [q2 a (by omega) (by omega) (by omega), k2 a (by omega)], fun a ha => t3 a (by omega) (by omega)⟩
    · unfold f_X7_keeps
      rw [bd1 w7, if_neg (by decide), bd1 k1', bd1 q1']
      exact z7.trans t1
    · unfold f_X8_keeps
      rw [bd1 w8, if_neg (by decide)]
      exact t2
  · have w7 : f_X7_isWithin p 0 1 c = some 0 := by rw [win7, if_neg hp]
    have w8 : f_X8_in p 0 1 m = some 0 := by rw [win8, if_neg hp]
    refine out_err 1 (-1000000001) h ?_ ?_
    · unfold f_X7_keeps
      rw [bd1 w7, if_pos rfl, bd1 (x7_e1 c)]
    · unfold f_X8_keeps
      rw [bd1 w8, if_pos rfl, bd1 (x8_e1 m)]
