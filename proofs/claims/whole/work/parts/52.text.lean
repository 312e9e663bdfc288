theorem to7 {u : Nat} (hu : u ≤ 1) (y : bv_Mem) : f_X5_textOf (nI u) y = some (tx_c u) := by
  match u, hu with
  | 0, _ => rfl
  | 1, _ => rfl
theorem cp_tx {u n : Nat} {y : bv_Mem} (hu : u ≤ 1) (hby : ∀ i, i < 50 → bt_by (y (7 + 1) i)) (yn : y 7 1 = nI n) : f_X4_copyTape (tx_c u) 7 y = some (bv_up (bv_cp y 8 (tx_c u + 1) 0 0 50) (tx_c u) 1 (nI n)) := by
  rw [← yn]
  have tc : tx_c u = 9 ∨ tx_c u = 11 := by unfold tx_c; omega
  rcases tc with w | w <;> rw [w]
  · exact cpT (by decide) (by decide) (by decide) (by decide) (by decide) (by decide) (by decide) (by decide) (by decide) hby
  · exact cpT (by decide) (by decide) (by decide) (by decide) (by decide) (by decide) (by decide) (by decide) (by decide) hby
theorem all_adv {src : Nat → Int32} {n u : Nat} : (px_all src n u).1 ≤ n ∧ 0 ≤ (px_all src n u).1 ∧ ((px_all src n u).2.1 = true → 0 < (px_all src n u).1 ∧ (px_all src n u).2.2.length + 0 ≤ (px_all src n u).1) :=
  lvl_adv (src := src) (one_adv (src := src) (n := n) (u := u) 5) 0 (by omega)
theorem par8 {n u : Nat} {src : Nat → Int32} {m : bv_Mem} (he : e8 n src m) (hu : u ≤ 1) : ∃ z0, z0 = bv_up (bv_up (bv_up (bv_up (bv_up m 61 13 (nI u)) 61 9 (0 : Int32)) 61 10 (0 : Int32)) 61 11 (0 : Int32)) 61 12 (0 : Int32) ∧ ((px_all src n u).2.1 = true → ∃ z', (G_X8 60).1 z0 = some z' ∧ q8 u m z' (px_all src n u).1 0 (px_all src n u).2.2) ∧ ((px_all src n u).2.1 = false → ∃ z', (G_X8 60).1 z0 = some z' ∧ b8 m z' (px_all src n u).1) := by
  refine ⟨_, rfl, ?_⟩
  have q0 : q8 u m (bv_up (bv_up (bv_up (bv_up (bv_up m 61 13 (nI u)) 61 9 (0 : Int32)) 61 10 (0 : Int32)) 61 11 (0 : Int32)) 61 12 (0 : Int32)) 0 0 [] := by
    refine ⟨q8f_up (q8f_up (q8f_up (q8f_up (q8f_up ⟨fun _ _ _ _ => rfl, fun _ _ => rfl⟩ (by omega)) (by omega)) (by omega)) (by omega)) (by omega), ?_, ?_, ?_, ?_, ?_, fun k hk => absurd hk (Nat.not_lt_zero k)⟩
    · rw [bv_up_nn (by omega), bv_up_nn (by omega), bv_up_eq]; rfl
    · rw [bv_up_nn (by omega), bv_up_nn (by omega), bv_up_nn (by omega), bv_up_eq]; rfl
    · rw [bv_up_nn (by omega), bv_up_eq]; rfl
    · rw [bv_up_eq]
    · rw [bv_up_nn (by omega), bv_up_nn (by omega), bv_up_nn (by omega), bv_up_nn (by omega), bv_up_eq]
  have hh := (all8_r he hu 5 0 60 (by omega) (by omega)).2 0 _ [] (by omega) (Nat.le_refl 0) q0
  rw [List.nil_append] at hh
  exact hh
set_option maxHeartbeats 4000000 in
theorem S_text : bv_S_text bv_I := by
  intro p mi hI
  refine lock (F7 := f_X7_text p) (F8 := f_X8_text p) ?_ mi hI
  intro c m h
  by_cases hp : 0 ≤ p ∧ p ≤ 1
  · obtain ⟨u, hu, rfl⟩ := n_of hp (n := 1) rfl
    have u7 : f_X7_isUse (nI u) c = some 1 := by rw [us7, if_pos hp]
    have u8 : f_X8_in (nI u) 0 1 m = some 1 := by rw [win8, if_pos hp]
    obtain ⟨n, hn, en⟩ := WJ_tap h
    have he := J_e8 h hn en
    have tp : tp_ok 7 n c := ⟨Or.inl rfl, hn, en⟩
    obtain ⟨v, y, k1, k2, k3, k4⟩ := worth7 (a := 0) (b := 0) (d := 0) tp hu
    have k1' : f_X2_faultOf 7 (nI u) c = some (y 43 5, y) := by
      unfold f_X2_faultOf
      rw [bd1 k1]
    obtain ⟨z0, hz0, s1, s2⟩ := par8 he hu
    have hadv := all_adv (src := px_src (c 8)) (n := n) (u := u)
    rw [show (7 + 1 : Nat) = 8 from rfl] at k3 k4
    obtain ⟨a1, a2, a3⟩ := hadv
    have rowy : ∀ a, 61 ≤ a → y a = c a := fun a ha => k2.1 a (by omega) (by omega)
    by_cases hq : (px_all (px_src (c 8)) n u).2.1 = true ∧ (px_all (px_src (c 8)) n u).1 = n
    · obtain ⟨f1, f2⟩ := k3 hq
      obtain ⟨z, g1, g2⟩ := s1 hq.1
      obtain ⟨a4, a5⟩ := a3 hq.1
      have hJ : bv_J y z := h.same (q7f_s k2) (q8f_s g2.1)
      have hJ2 : bv_J y (bv_up z 61 12 0) := h.same (q7f_s k2) (q8f_s (q8_ok g2).1)
      have hpx : px_all (px_src (y 8)) n u = (n, true, (px_all (px_src (c 8)) n u).2.2) := by
        rw [k2.1 8 (by omega) (by omega)]
        have e : px_all (px_src (c 8)) n u = ((px_all (px_src (c 8)) n u).1, (px_all (px_src (c 8)) n u).2.1, (px_all (px_src (c 8)) n u).2.2) := rfl
        rw [hq.1, hq.2] at e
        exact e
      have hcl : 0 < (px_all (px_src (c 8)) n u).2.2.length := by
        rcases Nat.eq_zero_or_pos (px_all (px_src (c 8)) n u).2.2.length with w | w
        · have w0 := List.length_eq_zero_iff.mp w
          have := (f2 [])
          rw [w0, run_nil] at this
          cases this
        · exact w
      have jt := J_text (cd := (px_all (px_src (c 8)) n u).2.2) hJ2 hu (by omega) hpx ⟨hcl, by omega⟩ (fun k hk => by
        rw [bv_up_row (by omega), bv_up_row (by omega)]
        exact g2.2.2.2.2.2.2 k hk)
      have yn : y 7 1 = nI n := by rw [k2.1 7 (by omega) (by omega), en]
      have tc : tx_c u = 9 ∨ tx_c u = 11 := by unfold tx_c; omega
      have cp7 := cp_tx (n := n) hu (fun i hi => (hJ.1.1.2.2.2.2.2 i hi).1) yn
      have isC : bv_isC 74 (tx_c u) 4 = true := by rcases tc with w | w <;> rw [w] <;> decide
      have e12 : z 61 12 = 0 := g2.2.2.2.2.1
      have e10 : z 61 10 = nI n := by rw [g2.2.1, hq.2]
      have z62 : z 62 = m 62 := g2.1.1 62 (by omega) (by omega) (by omega)
      have eK : (169 : Int32) + 101 * nI u = nI (tx_k u) := by
        unfold tx_k
        rw [show (169 : Int32) = nI 169 from rfl, show (101 : Int32) = nI 101 from rfl, pk_mul, nI_add]
      have hK : tx_k u ≤ 270 := by unfold tx_k; omega
      have f0 : bv_fit .boolean 0 = true := by decide
      refine ⟨1, _, _, ?_, ?_, jt, ?_, ?_⟩
      · unfold f_X7_text
        rw [bd1 u7, if_neg (by decide), bd1 k1']
        dsimp only
        rw [f1, if_neg (by decide), bd1 (to7 hu y), if_pos isC, bd1 cp7, b_X7_text_51, if_neg (by decide)]
      · unfold f_X8_text
        rw [bd1 u8, if_neg (by decide), ← hz0, bd1 g1, if_pos e12, z62, he.2.1, e10, if_pos (nI_le (Nat.le_refl _) (by omega)), b_X8_text_71, if_pos f0]
        have w12 : bv_up (bv_up z 61 12 0) 62 4 0 61 12 = 0 := by rw [bv_up_row (by omega), bv_up_eq]
        have w9 : bv_up (bv_up z 61 12 0) 62 4 0 61 9 = nI (px_all (px_src (c 8)) n u).2.2.length := by rw [bv_up_row (by omega), bv_up_nn (by omega), g2.2.2.1]
        rw [w12, if_pos rfl, eK, if_pos (nb_in (by omega) (by omega)), nI_clamp (by omega), w9]
        exact tx8_lp (L := (px_all (px_src (c 8)) n u).2.2.length) (by omega) hK (px_all (px_src (c 8)) n u).2.2.length 0 400 _ (by omega) (by omega) (by rw [bv_up_row (by omega), w9])
      · intro a ha
        rw [bv_up_row (by omega), bv_up_row (by omega), bv_cp_row (by omega), rowy a ha]
      · intro a ha
        rw [lay_r (by omega), bv_up_row (by omega), bv_up_row (by omega), bv_up_row (by omega), g2.1.1 a (by omega) (by omega) (by omega)]
    · have f1 := k4 hq
      have e43 : 0 ≤ y 43 5 := by rw [f1]; exact nI_pos' (by omega)
      have main : ∀ z : bv_Mem, q8f m z → z 61 10 = nI (px_all (px_src (c 8)) n u).1 → f_X8_text (nI u) m = b_X8_text_66 (nI u) z → bv_out (f_X7_text (nI u)) (f_X8_text (nI u)) c m := by
        intro z hz h10 hr
        have f1b : bv_fit .boolean 1 = true := by decide
        have hJ : bv_J y (bv_up z 61 12 1) := h.same (q7f_s k2) (q8f_s (q8f_up hz (by omega)))
        have hJ2 : bv_J (bv_up y 7 1 (nI 0)) (bv_up (bv_up z 61 12 1) 62 4 (nI 0)) := J_up 0 (by unfold bt_cor; omega) (ok_len (by omega)) hJ
        refine ⟨-10 - nI (px_all (px_src (c 8)) n u).1, _, _, ?_, ?_, hJ2, ?_, ?_⟩
        · unfold f_X7_text
          rw [bd1 u7, if_neg (by decide), bd1 k1']
          dsimp only
          rw [if_pos e43, b_X7_text_51, if_pos e43, f1]
          rfl
        · have w12 : ¬ bv_up (bv_up z 61 12 1) 62 4 0 61 12 = 0 := by rw [bv_up_row (by omega), bv_up_eq]; decide
          have w10 : bv_up (bv_up z 61 12 1) 62 4 0 61 10 = nI (px_all (px_src (c 8)) n u).1 := by rw [bv_up_row (by omega), bv_up_nn (by omega), h10]
          rw [hr, b_X8_text_66, b_X8_text_71, if_pos f1b, if_neg w12, w10]
          rfl
        · intro a ha
          rw [bv_up_row (by omega), rowy a ha]
        · intro a ha
          rw [bv_up_row (by omega), bv_up_row (by omega), hz.1 a (by omega) (by omega) (by omega)]
      by_cases ho : (px_all (px_src (c 8)) n u).2.1 = true
      · obtain ⟨z, g1, g2⟩ := s1 ho
        have z62 : z 62 = m 62 := g2.1.1 62 (by omega) (by omega) (by omega)
        have hne : (px_all (px_src (c 8)) n u).1 ≠ n := fun w => hq ⟨ho, w⟩
        refine main z g2.1 g2.2.1 ?_
        unfold f_X8_text
        rw [bd1 u8, if_neg (by decide), ← hz0, bd1 g1, if_pos g2.2.2.2.2.1, z62, he.2.1, g2.2.1, if_neg (nI_ge (by omega) (by omega))]
      · obtain ⟨z, g1, g2⟩ := s2 (by simpa using ho)
        refine main z g2.1 g2.2.1 ?_
        unfold f_X8_text
        rw [bd1 u8, if_neg (by decide), ← hz0, bd1 g1, if_neg (b8_12 g2)]
  · have u7 : f_X7_isUse p c = some 0 := by rw [us7, if_neg hp]
    have u8 : f_X8_in p 0 1 m = some 0 := by rw [win8, if_neg hp]
    refine out_err 1 (-1000000001) h ?_ ?_
    · unfold f_X7_text
      rw [bd1 u7, if_pos rfl, bd1 (x7_e1 c)]
    · unfold f_X8_text
      rw [bd1 u8, if_pos rfl, bd1 (x8_e1 m)]
