-- ===== how far what is left lies =====
theorem lg_lp {c m : bv_Mem} {b fr L : Nat} (h : bv_J c m) (hb : b < 8) (hfr : fr < 20) (hL : L < 2 ^ 20) (ef : c (14 + b) 2 = nI fr) : ∀ (n i f7 f8 : Nat) (q : Int32), i + n = 20 → n < f7 → n < f8 → ∃ r, b_X0_leagues_9 c f7 (14 + b) (nI L) q (nI i) = some r ∧ b_X8_leaguesOf_11 m f8 (nI b) q (nI L) (nI i) = some r := by
  obtain ⟨r1, r2⟩ := bo_rf b hb
  have o2 : f_X8_of (nI b) 2 m = some (nI fr) := by rw [← ef]; exact of8J (k := 2) h hb (by omega)
  intro n
  induction n with
  | zero =>
    intro i f7 f8 q hi h7 h8
    obtain ⟨f7, rfl⟩ : ∃ k, f7 = k + 1 := ⟨f7 - 1, by omega⟩
    obtain ⟨f8, rfl⟩ : ∃ k, f8 = k + 1 := ⟨f8 - 1, by omega⟩
    have e : i = 20 := by omega
    subst e
    exact ⟨q, by rw [b_X0_leagues_9, if_pos (by decide)], by rw [b_X8_leaguesOf_11, if_pos (by decide)]⟩
  | succ n ih =>
    intro i f7 f8 q hi h7 h8
    obtain ⟨f7, rfl⟩ : ∃ k, f7 = k + 1 := ⟨f7 - 1, by omega⟩
    obtain ⟨f8, rfl⟩ : ∃ k, f8 = k + 1 := ⟨f8 - 1, by omega⟩
    have e1 : ¬ (20 : Int32) ≤ nI i := nI_ge (b := 20) (by omega) (by omega)
    have hz := b_z (X := L) (j := i) (by omega) (by omega)
    have ho := b_o (X := L) (j := i) (by omega) (by omega)
    rw [b_X0_leagues_9, b_X8_leaguesOf_11, if_neg e1, if_neg e1, bd1 o2, bd1 (steps8 (by omega) (by omega) m), if_pos r2, ef, abs_far hfr (by omega), show nI i + 1 = nI (i + 1) from nI_1 i]
    cases ht : L.testBit i with
    | false =>
      rw [if_pos (hz.mpr ht), if_neg (fun w => by rw [ho.mp w] at ht; cases ht)]
      exact ih (i + 1) f7 f8 q (by omega) (by omega) (by omega)
    | true =>
      rw [if_neg (fun w => by rw [hz.mp w] at ht; cases ht), if_pos (ho.mpr ht)]
      unfold bv_max
      by_cases hq : nI (sp_far fr i) ≤ q
      · rw [if_pos hq, if_neg (i_nlt.mpr hq)]
        exact ih (i + 1) f7 f8 q (by omega) (by omega) (by omega)
      · rw [if_neg hq, if_pos (i_nle.mp hq)]
        exact ih (i + 1) f7 f8 _ (by omega) (by omega) (by omega)
theorem lg_J {c m : bv_Mem} (h : bv_J c m) {b : Nat} (hb : b < 8) : ∃ r, f_X0_leagues (14 + b) c = some r ∧ f_X8_leaguesOf (nI b) m = some r := by
  obtain ⟨r1, r2⟩ := bo_rf b hb
  obtain ⟨-, -, ⟨fr, hfr, efr⟩, -, -, -⟩ := WJ_b h hb
  obtain ⟨hL, l7, l8⟩ := lf_J h hb
  obtain ⟨r, g1, g2⟩ := lg_lp h hb hfr hL efr 20 0 400 400 0 (by omega) (by omega) (by omega)
  refine ⟨r, ?_, ?_⟩
  · unfold f_X0_leagues
    rw [if_pos r2, bd1 l7]
    exact g1
  · unfold f_X8_leaguesOf
    rw [bd1 l8]
    exact g2
-- ===== what one costs =====
theorem pr_J {c m : bv_Mem} (h : bv_J c m) {b : Nat} (hb : b < 8) : ∃ v c' m', f_X7_priceOf (14 + b) c = some (v, c') ∧ f_X8_costsOf (nI b) m = some (v, m') ∧ (∀ x, x ≠ 43 → x ≠ 46 → c' x = c x) ∧ (∀ x, x ≠ 68 → x ≠ 69 → m' x = m x) := by
  obtain ⟨r1, r2⟩ := bo_rf b hb
  obtain ⟨hL, l7, l8⟩ := lf_J h hb
  obtain ⟨r, g1, g2⟩ := lg_J h hb
  obtain ⟨w, c', m', k1, k2, k3, k4, -⟩ := law_x (u := 1) (by omega) (J_X h (by omega)) (nI (sp_pc 20 (lf c b))) r (c (14 + b) 4)
  have k1' : f_X7_lawGives 1 (nI (sp_pc 20 (lf c b))) r (c (14 + b) 4) c = some (w, c') := k1
  have k2' : f_X8_gives 1 (nI (sp_pc 20 (lf c b))) r (c (14 + b) 4) m = some (w, m') := k2
  have hJ : bv_J c' m' := h.same (s7_43 k3) (s8_68 k4)
  obtain ⟨⟨k, hk, ek⟩, ⟨mm, hmm, em⟩, -, -, -, -⟩ := WJ_b hJ hb
  have o4m : f_X8_of (nI b) 4 m = some (c (14 + b) 4) := of8J (k := 4) h hb (by omega)
  have o0 : f_X8_of (nI b) 0 m' = some (nI k) := by rw [← ek]; exact of8J (k := 0) hJ hb (by omega)
  have o1 : f_X8_of (nI b) 1 m' = some (nI mm) := by rw [← em]; exact of8J (k := 1) hJ hb (by omega)
  have o4 : f_X8_of (nI b) 4 m' = some (c' (14 + b) 4) := of8J (k := 4) hJ hb (by omega)
  have n0 : ¬ nI mm + 1 = 0 := by rw [nI_1]; exact nI_ne0 (by omega) (by omega)
  have quo : f_X7_quotient (c' (14 + b) 4) (nI mm + 1) c' = some (c' (14 + b) 4 / (nI mm + 1)) := by
    unfold f_X7_quotient
    rw [if_neg n0, if_pos n0]
  have main : ∀ v, f_X0_priceBy (14 + b) w c' = some v → (if nI k = (1 : Int32) then
    some (((2 : Int32) * w), m')
  else if nI k = (2 : Int32) then
    some ((w / (2 : Int32)), m')
  else if nI k = (3 : Int32) then
    (f_X8_of (nI b) (4 : Int32) m').bind fun z7 =>
    some ((w + z7), m')
  else if nI k = (4 : Int32) then
    (f_X8_of (nI b) (1 : Int32) m').bind fun z8 =>
    some ((((2 : Int32) * w) + ((5 : Int32) * z8)), m')
  else if nI k = (5 : Int32) then
    some ((1 : Int32), m')
  else if nI k = (6 : Int32) then
    (f_X8_of (nI b) (4 : Int32) m').bind fun z9 =>
    (f_X8_of (nI b) (4 : Int32) m').bind fun z10 =>
    (f_X8_of (nI b) (1 : Int32) m').bind fun z11 =>
    if ¬ (z11 + (1 : Int32)) = 0 then
    some (((w + z9) + (z10 / (z11 + (1 : Int32)))), m')
    else none
  else
  some (w, m')) = some (v, m') → ∃ v c' m', f_X7_priceOf (14 + b) c = some (v, c') ∧ f_X8_costsOf (nI b) m = some (v, m') ∧ (∀ x, x ≠ 43 → x ≠ 46 → c' x = c x) ∧ (∀ x, x ≠ 68 → x ≠ 69 → m' x = m x) := by
    intro v p7 p8
    refine ⟨v, c', m', ?_, ?_, k3, k4⟩
    · unfold f_X7_priceOf
      rw [if_pos r2, bd1 l7, bd1 (bc7 hL c), bd1 g1, bd1 k1', bd1 p7]
    · unfold f_X8_costsOf
      rw [bd1 l8, bd1 (bits8 hL), bd1 g2, bd1 o4m, bd1 k2', bd1 o0]
      exact p8
  rw [bd1 o4, bd1 o1, bd1 o4, bd1 o4, bd1 o1, if_pos n0] at main
  unfold f_X0_priceBy at main
  rw [if_pos r2, ek, em, bd1 quo] at main
  match k, hk with
  | 0, _ => exact main w rfl rfl
  | 1, _ => exact main (2 * w) rfl rfl
  | 2, _ => exact main (w / 2) rfl rfl
  | 3, _ => exact main (w + c' (14 + b) 4) rfl rfl
  | 4, _ => exact main (2 * w + 5 * nI mm) rfl rfl
  | 5, _ => exact main 1 rfl rfl
  | 6, _ => exact main (w + c' (14 + b) 4 + c' (14 + b) 4 / (nI mm + 1)) rfl rfl
theorem S_ofBottle : bv_S_ofBottle bv_I := by
  intro p q mi hI
  refine lock (F7 := f_X7_ofBottle p q) (F8 := f_X8_ofBottle p q) ?_ mi hI
  intro c m h
  obtain ⟨f, hf, ef⟩ := WJ_fil h
  have ef8 : m 62 3 = nI f := (RJ_f h).trans ef
  by_cases hp : 0 ≤ p ∧ p ≤ nI f - 1
  · obtain ⟨b, hb, rfl⟩ := n_of1 hp (by omega)
    obtain ⟨r1, r2⟩ := bo_rf b (by omega)
    by_cases hq : 0 ≤ q ∧ q ≤ 8
    · obtain ⟨Q, hQ, rfl⟩ := n_of hq (n := 8) rfl
      have k7 : f_X7_isWithin (nI Q) 0 8 c = some 1 := by rw [win7, if_pos hq]
      have k8 : f_X8_in (nI Q) 0 8 m = some 1 := by rw [win8, if_pos hq]
      have low : ∀ (v : Int32), Q < 6 → v = c (14 + b) Q → f_X7_ofBottle (nI b) (nI Q) c = some (v, c) → bv_out (f_X7_ofBottle (nI b) (nI Q)) (f_X8_ofBottle (nI b) (nI Q)) c m := by
        intro v h6 hv h7
        refine out_ro v h h7 ?_
        unfold f_X8_ofBottle
        rw [bd1 (bo8t hf ef8 hb), if_neg (by decide), bd1 k8, if_neg (by decide), if_neg (show ¬ (6 : Int32) ≤ nI Q from nI_ge (b := 6) h6 (by omega)), bd1 (of8J h (by omega) h6), hv]
      match Q, hQ with
      | 0, _ =>
        refine low (c (14 + b) 0) (by omega) rfl ?_
        unfold f_X7_ofBottle
        rw [bd1 (bo7t hf ef hb), if_neg (by decide), bd1 k7, if_neg (by decide), if_pos (nb_in (by omega) (by omega)), nI_clamp (by omega), bd1 r1, if_pos (show nI 0 = 0 from rfl), if_pos r2]
      | 1, _ =>
        refine low (c (14 + b) 1) (by omega) rfl ?_
        unfold f_X7_ofBottle
        rw [bd1 (bo7t hf ef hb), if_neg (by decide), bd1 k7, if_neg (by decide), if_pos (nb_in (by omega) (by omega)), nI_clamp (by omega), bd1 r1, if_neg (by decide), if_pos (show nI 1 = 1 from rfl), if_pos r2]
      | 2, _ =>
        refine low (c (14 + b) 2) (by omega) rfl ?_
        unfold f_X7_ofBottle
        rw [bd1 (bo7t hf ef hb), if_neg (by decide), bd1 k7, if_neg (by decide), if_pos (nb_in (by omega) (by omega)), nI_clamp (by omega), bd1 r1, if_neg (by decide), if_neg (by decide), if_pos (show nI 2 = 2 from rfl), if_pos r2]
      | 3, _ =>
        refine low (c (14 + b) 3) (by omega) rfl ?_
        unfold f_X7_ofBottle
        rw [bd1 (bo7t hf ef hb), if_neg (by decide), bd1 k7, if_neg (by decide), if_pos (nb_in (by omega) (by omega)), nI_clamp (by omega), bd1 r1, if_neg (by decide), if_neg (by decide), if_neg (by decide), if_pos (show nI 3 = 3 from rfl), if_pos r2]
      | 4, _ =>
        refine low (c (14 + b) 4) (by omega) rfl ?_
        unfold f_X7_ofBottle
        rw [bd1 (bo7t hf ef hb), if_neg (by decide), bd1 k7, if_neg (by decide), if_pos (nb_in (by omega) (by omega)), nI_clamp (by omega), bd1 r1, if_neg (by decide), if_neg (by decide), if_neg (by decide), if_neg (by decide), if_pos (show nI 4 = 4 from rfl), if_pos r2]
      | 5, _ =>
        obtain ⟨-, -, -, -, -, ⟨o, ho, eo⟩⟩ := WJ_b h (b := b) (by omega)
        have oi : f_X7_oneIf (c (14 + b) 5) c = some (c (14 + b) 5) := by
          rw [eo]
          match o, ho with
          | 0, _ => rfl
          | 1, _ => rfl
        refine low (c (14 + b) 5) (by omega) rfl ?_
        unfold f_X7_ofBottle
        rw [bd1 (bo7t hf ef hb), if_neg (by decide), bd1 k7, if_neg (by decide), if_pos (nb_in (by omega) (by omega)), nI_clamp (by omega), bd1 r1, if_neg (by decide), if_neg (by decide), if_neg (by decide), if_neg (by decide), if_neg (by decide), if_pos (show nI 5 = 5 from rfl), if_pos r2, bd1 oi]
      | 6, _ =>
        obtain ⟨hL, l7, l8⟩ := lf_J h (b := b) (by omega)
        refine out_ro (nI (lf c b)) h ?_ ?_
        · unfold f_X7_ofBottle
          rw [bd1 (bo7t hf ef hb), if_neg (by decide), bd1 k7, if_neg (by decide), if_pos (nb_in (by omega) (by omega)), nI_clamp (by omega), bd1 r1, if_neg (by decide), if_neg (by decide), if_neg (by decide), if_neg (by decide), if_neg (by decide), if_neg (by decide), if_pos (show nI 6 = 6 from rfl), if_pos r2, bd1 l7]
        · unfold f_X8_ofBottle
          rw [bd1 (bo8t hf ef8 hb), if_neg (by decide), bd1 k8, if_neg (by decide), if_pos (by decide), if_pos (show nI 6 = 6 from rfl), bd1 l8]
      | 7, _ =>
        obtain ⟨r, g1, g2⟩ := lg_J h (b := b) (by omega)
        refine out_ro r h ?_ ?_
        · unfold f_X7_ofBottle
          rw [bd1 (bo7t hf ef hb), if_neg (by decide), bd1 k7, if_neg (by decide), if_pos (nb_in (by omega) (by omega)), nI_clamp (by omega), bd1 r1, if_neg (by decide), if_neg (by decide), if_neg (by decide), if_neg (by decide), if_neg (by decide), if_neg (by decide), if_neg (by decide), if_pos (show nI 7 = 7 from rfl), if_pos r2, bd1 g1]
        · unfold f_X8_ofBottle
          rw [bd1 (bo8t hf ef8 hb), if_neg (by decide), bd1 k8, if_neg (by decide), if_pos (by decide), if_neg (by decide), if_pos (show nI 7 = 7 from rfl), bd1 g2]
      | 8, _ =>
        obtain ⟨v, c', m', g1, g2, g3, g4⟩ := pr_J h (b := b) (by omega)
        refine ⟨v, c', m', ?_, ?_, h.same (s7_43 g3) (s8_68 g4), fun a ha => g3 a (by omega) (by omega), fun a ha => g4 a (by omega) (by omega)⟩
        · unfold f_X7_ofBottle
          rw [bd1 (bo7t hf ef hb), if_neg (by decide), bd1 k7, if_neg (by decide), if_pos (nb_in (by omega) (by omega)), nI_clamp (by omega), bd1 r1, if_neg (by decide), if_neg (by decide), if_neg (by decide), if_neg (by decide), if_neg (by decide), if_neg (by decide), if_neg (by decide), if_neg (by decide), bd1 g1]
        · unfold f_X8_ofBottle
          rw [bd1 (bo8t hf ef8 hb), if_neg (by decide), bd1 k8, if_neg (by decide), if_pos (by decide), if_neg (by decide), if_neg (by decide), bd1 g2]
    · have k7 : f_X7_isWithin q 0 8 c = some 0 := by rw [win7, if_neg hq]
      have k8 : f_X8_in q 0 8 m = some 0 := by rw [win8, if_neg hq]
      refine out_err 1 (-1000000001) h ?_ ?_
      · unfold f_X7_ofBottle
        rw [bd1 (bo7t hf ef hb), if_neg (by decide), bd1 k7, if_pos rfl, bd1 (x7_e1 c)]
      · unfold f_X8_ofBottle
        rw [bd1 (bo8t hf ef8 hb), if_neg (by decide), bd1 k8, if_pos rfl, bd1 (x8_e1 m)]
  · have p7 : f_X7_isBottle p c = some 0 := by rw [bo7, ef, if_neg hp]
    have p8 : f_X8_isBottle p m = some 0 := by rw [bo8, ef8, if_neg hp]
    refine out_err 1 (-1000000001) h ?_ ?_
    · unfold f_X7_ofBottle
      rw [bd1 p7, if_pos rfl, bd1 (x7_e1 c)]
    · unfold f_X8_ofBottle
      rw [bd1 p8, if_pos rfl, bd1 (x8_e1 m)]
