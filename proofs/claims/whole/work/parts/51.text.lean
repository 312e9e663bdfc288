-- ===== the worth of a text =====
def px_fa (a b d : Int32) : Nat → Int32 := fun k => if k = 0 then a else if k = 1 then b else d
theorem worth7 {tp n u : Nat} {c : bv_Mem} {a b d : Int32} (ht : tp_ok tp n c) (hu : u ≤ 1) : ∃ v y, f_X2_worth tp (nI u) a b d c = some (v, y) ∧ q7f tp c y ∧ (((px_all (px_src (c (tp + 1))) n u).2.1 = true ∧ (px_all (px_src (c (tp + 1))) n u).1 = n) → y 43 5 = -1 ∧ px_val (px_fa a b d) (px_all (px_src (c (tp + 1))) n u).2.2 v) ∧ (¬ ((px_all (px_src (c (tp + 1))) n u).2.1 = true ∧ (px_all (px_src (c (tp + 1))) n u).1 = n) → y 43 5 = nI (px_all (px_src (c (tp + 1))) n u).1) := by
  have ht' := ht
  obtain ⟨ht1, ht2, ht3⟩ := ht'
  obtain ⟨r1, r2, r3, r4⟩ := tp_rf tp ht1
  have t43 : tp ≠ 43 ∧ tp ≠ 46 ∧ tp + 1 ≠ 43 ∧ tp + 1 ≠ 46 ∧ tp < 100 := by omega
  have hadv := lvl_adv (src := px_src (c (tp + 1))) (one_adv (src := px_src (c (tp + 1))) (n := n) (u := u) 5) 0 (by omega)
  obtain ⟨y1, g1, g2⟩ := step7 (fa := px_fa a b d) (u := u) (j := 0) (y := bv_up (bv_up (bv_up (bv_up (bv_up (bv_up (bv_up c 43 0 (Int32.ofNat tp)) 43 1 (nI u)) 46 0 a) 46 1 b) 46 2 d) 43 3 (-1 : Int32)) 43 5 (-1 : Int32)) ht ⟨fun x h1 h2 => by
      rw [bv_up_row h1, bv_up_row h1, bv_up_row h2, bv_up_row h2, bv_up_row h2, bv_up_row h1, bv_up_row h1], by
      rw [bv_up_nn (by omega), bv_up_nn (by omega), bv_up_nn (by omega), bv_up_nn (by omega), bv_up_nn (by omega), bv_up_nn (by omega), bv_up_eq]
      rfl⟩ (by rw [bv_up_nn (by omega), bv_up_nn (by omega), bv_up_nn (by omega), bv_up_nn (by omega), bv_up_nn (by omega), bv_up_eq]) bv_up_eq (fun k hk => by
      rw [bv_up_row (by omega), bv_up_row (by omega)]
      match k, hk with
      | 0, _ => rw [bv_up_nn (by omega), bv_up_nn (by omega), bv_up_eq]; rfl
      | 1, _ => rw [bv_up_nn (by omega), bv_up_eq]; rfl
      | 2, _ => rw [bv_up_eq]; rfl) (by
      rw [bv_up_nn (by omega), bv_up_eq]
      rfl) (by omega)
  have hs := (all7_r (fa := px_fa a b d) ht hu 5 0 60 (by omega) (by omega)).2
  rw [nI_0] at hs
  obtain ⟨s1, s2⟩ := hs 0 y1 (by omega) g2
  have ep : px_lvl (px_src (c (tp + 1))) n (px_one (px_src (c (tp + 1))) n u 5) 0 0 = px_all (px_src (c (tp + 1))) n u := rfl
  rw [ep] at s1 s2 hadv
  obtain ⟨a1, a2, a3⟩ := hadv
  unfold f_X2_worth
  rw [if_pos r1, bd1 g1]
  have tail : ∀ (v : Int32) (y : bv_Mem), q7f tp c y → y 43 3 = nI (px_all (px_src (c (tp + 1))) n u).1 → ((if bv_isC 74 ((y 43 0).toNatClampNeg) 4 = true then (if (y ((y 43 0).toNatClampNeg) 1) ≤ (y 43 3) then some (v, y) else (f_X2_refuse y).bind fun z3 => some (v, z3)) else none) = if (px_all (px_src (c (tp + 1))) n u).1 = n then some (v, y) else (f_X2_refuse y).bind fun z3 => some (v, z3)) := by
    intro v y hf h3
    rw [hf.2, nI_clamp (by omega), if_pos r1, hf.1 tp (by omega) (by omega), ht3, h3]
    by_cases hq : (px_all (px_src (c (tp + 1))) n u).1 = n
    · rw [if_pos hq, if_pos (nI_le (by omega) (by omega))]
    · rw [if_neg hq, if_neg (nI_ge (by omega) (by omega))]
  by_cases ho : (px_all (px_src (c (tp + 1))) n u).2.1 = true
  · obtain ⟨v, y2, k1, k2, k3⟩ := s1 ho
    rw [bd1 k1]
    dsimp only
    rw [tail v y2 k2.1 k2.2.2.1]
    by_cases hq : (px_all (px_src (c (tp + 1))) n u).1 = n
    · rw [if_pos hq]
      exact ⟨v, y2, rfl, k2.1, fun _ => ⟨k2.2.2.2.2.1, k3⟩, fun q => absurd ⟨ho, hq⟩ q⟩
    · rw [if_neg hq]
      obtain ⟨y3, t1, t2⟩ := ref7 k2.1 k2.2.2.1
      rw [bd1 t1]
      exact ⟨v, y3, rfl, t2.1, fun q => absurd q.2 hq, fun _ => t2.2.2.2⟩
  · obtain ⟨v, y2, k1, k2⟩ := s2 (by simpa using ho)
    rw [bd1 k1]
    dsimp only
    rw [tail v y2 k2.1 k2.2.1]
    by_cases hq : (px_all (px_src (c (tp + 1))) n u).1 = n
    · rw [if_pos hq]
      exact ⟨v, y2, rfl, k2.1, fun q => absurd q.1 ho, fun _ => k2.2.2.2⟩
    · rw [if_neg hq]
      obtain ⟨y3, t1, t2⟩ := ref7 k2.1 k2.2.1
      rw [bd1 t1]
      exact ⟨v, y3, rfl, t2.1, fun q => absurd q.1 ho, fun _ => t2.2.2.2⟩
theorem q7f_s {tp : Nat} {c y : bv_Mem} (h : q7f tp c y) : bt_s7 c y := by
  intro a k ha hs
  rw [h.1 a]
  · rintro rfl
    simp [bt_scr] at hs
  · rintro rfl
    simp [bt_scr] at hs
theorem q8f_s {m z : bv_Mem} (h : q8f m z) : bt_s8 m z := by
  intro a k ha hs
  by_cases h61 : a = 61
  · subst h61
    apply h.2 k
    by_cases h9 : 9 ≤ k ∧ k ≤ 13
    · obtain ⟨q1, q2⟩ := h9
      have e1 : Nat.ble 9 k = true := Nat.ble_eq_true_of_le q1
      have e2 : Nat.ble k 13 = true := Nat.ble_eq_true_of_le q2
      simp [bt_scr, e1, e2] at hs
    · omega
  · rw [h.1 a h61]
    · rintro rfl
      simp [bt_scr] at hs
    · rintro rfl
      simp [bt_scr] at hs
theorem J_e8 {c m : bv_Mem} (h : bv_J c m) {n : Nat} (hn : n ≤ 50) (e : c 7 1 = nI n) : e8 n (px_src (c 8)) m := by
  refine ⟨hn, (RJ_t h).trans e, fun i hi => ?_⟩
  rw [RJ_tape h (by omega)]
  unfold px_src
  rw [if_pos (by omega)]
-- ===== the steps laid into the row =====
def bt_lay (at_ j L : Nat) (z : bv_Mem) : bv_Mem := fun a k => if a = 62 ∧ at_ + 1 + j ≤ k ∧ k < at_ + 1 + L then z 66 (k - at_ - 1) else if a = 62 ∧ at_ + 51 + j ≤ k ∧ k < at_ + 51 + L then z 67 (k - at_ - 51) else z a k
theorem tx8_lp {at_ L : Nat} (hL : L ≤ 50) (ha : at_ ≤ 270) : ∀ (n j fu : Nat) (z : bv_Mem), j + n = L → n < fu → z 61 9 = nI L → b_X8_text_117 fu (nI at_) (nI j) z = some (1, bt_lay at_ j L z) := by
  intro n
  induction n with
  | zero =>
    intro j fu z hj hf e9
    obtain ⟨fu, rfl⟩ : ∃ k, fu = k + 1 := ⟨fu - 1, by omega⟩
    rw [b_X8_text_117, e9, if_pos (nI_le (by omega) (by omega))]
    congr 2
    funext a k
    unfold bt_lay
    rw [if_neg (by omega), if_neg (by omega)]
  | succ n ih =>
    intro j fu z hj hf e9
    obtain ⟨fu, rfl⟩ : ∃ k, fu = k + 1 := ⟨fu - 1, by omega⟩
    have e1 : ¬ nI L ≤ nI j := nI_ge (by omega) (by omega)
    have a1 : nI at_ + 1 + nI j = nI (at_ + 1 + j) := by rw [nI_1, nI_add]
    have a2 : nI at_ + 51 + nI j = nI (at_ + 51 + j) := by
      have : nI at_ + 51 = nI (at_ + 51) := nI_add at_ 51
      rw [this, nI_add]
    rw [b_X8_text_117, e9, if_neg e1, if_pos (nb_in (by omega) (by omega)), a1, a2, if_pos (nb_in (by omega) (by omega)), if_pos (nb_in (by omega) (by omega)), nI_clamp (by omega), nI_clamp (by omega), nI_clamp (by omega), bv_up_row (by omega), show nI j + 1 = nI (j + 1) from nI_1 j, ih (j + 1) fu _ (by omega) (by omega) (by rw [bv_up_nn (by omega), bv_up_nn (by omega)]; exact e9)]
    congr 2
    funext a k
    unfold bt_lay bv_up
    have n66 : ∀ q, ¬ ((66 : Nat) = 62 ∧ q) := fun q w => absurd w.1 (by decide)
    have n67 : ∀ q, ¬ ((67 : Nat) = 62 ∧ q) := fun q w => absurd w.1 (by decide)
    simp only [if_neg (n66 _), if_neg (n67 _)]
    by_cases h1 : a = 62 ∧ at_ + 1 + (j + 1) ≤ k ∧ k < at_ + 1 + L
    · rw [if_pos h1, if_pos (by omega)]
    · rw [if_neg h1]
      by_cases h2 : a = 62 ∧ at_ + 51 + (j + 1) ≤ k ∧ k < at_ + 51 + L
      · rw [if_pos h2, if_neg (by omega), if_pos (by omega)]
      · rw [if_neg h2]
        by_cases h3 : a = 62 ∧ k = at_ + 51 + j
        · rw [if_pos h3, if_neg (by omega), if_pos (by omega), h3.2]
          congr 1
          omega
        · rw [if_neg h3]
          by_cases h4 : a = 62 ∧ k = at_ + 1 + j
          · rw [if_pos h4, if_pos (by omega), h4.2]
            congr 1
            omega
          · rw [if_neg h4, if_neg (by omega), if_neg (by omega)]
theorem lay_r {at_ j L a : Nat} {z : bv_Mem} (h : a ≠ 62) : bt_lay at_ j L z a = z a := by
  funext k
  unfold bt_lay
  rw [if_neg (fun q => h q.1), if_neg (fun q => h q.1)]
theorem lay_o {at_ j L k : Nat} {z : bv_Mem} (h : k < at_ + 1 ∨ at_ + 101 ≤ k) (hL : L ≤ 50) : bt_lay at_ j L z 62 k = z 62 k := by
  unfold bt_lay
  rw [if_neg (by omega), if_neg (by omega)]
theorem ok_len {n : Nat} (h : n ≤ 50) : bt_ok 7 1 (nI n) := by
  refine ⟨fun q => absurd q (by decide), fun q => absurd q (by decide), fun q => absurd q (by decide), fun _ _ => ⟨n, h, rfl⟩, fun q => absurd q (by decide), fun q => absurd q (by decide), fun q => absurd q (by decide), fun q => absurd q (by decide), fun q => absurd q (by decide), fun q => absurd q (by decide)⟩
theorem px_src_cg {f g : Nat → Int32} (h : ∀ i, i < 50 → f i = g i) : px_src f = px_src g := by
  funext i
  unfold px_src
  by_cases hi : i < 50
  · rw [if_pos hi, if_pos hi, h i hi]
  · rw [if_neg hi, if_neg hi]
/-- the text of a use: its cell, where its steps lie -/
def tx_c (u : Nat) : Nat := 9 + 2 * u
def tx_k (u : Nat) : Nat := 169 + 101 * u
theorem J_text {y z : bv_Mem} {u n : Nat} {cd : px_L} (h : bv_J y z) (hu : u ≤ 1) (hn : 0 < n ∧ n ≤ 50) (hp : px_all (px_src (y 8)) n u = (n, true, cd)) (hc : 0 < cd.length ∧ cd.length ≤ 50) (h66 : ∀ k, k < cd.length → z 66 k = (cd.getD k (0, 0)).1 ∧ z 67 k = (cd.getD k (0, 0)).2) : bv_J (bv_up (bv_up (bv_cp y 8 (tx_c u + 1) 0 0 50) (tx_c u) 1 (nI n)) 7 1 0) (bt_lay (tx_k u) 0 cd.length (bv_up (bv_up z 62 4 0) 62 (tx_k u) (nI cd.length))) := by
  have hk : tx_k u = 169 + 101 * u := rfl
  have hcc : tx_c u = 9 + 2 * u := rfl
  generalize hK : tx_k u = K at *
  generalize hC : tx_c u = C at *
  have row7 : ∀ a, a ≠ 7 → a ≠ C → a ≠ C + 1 → bv_up (bv_up (bv_cp y 8 (C + 1) 0 0 50) C 1 (nI n)) 7 1 0 a = y a := by
    intro a h1 h2 h3
    rw [bv_up_row h1, bv_up_row h2, bv_cp_row h3]
  have s71 : ∀ k, k ≠ 1 → bv_up (bv_up (bv_cp y 8 (C + 1) 0 0 50) C 1 (nI n)) 7 1 0 7 k = y 7 k := by
    intro k h1
    rw [bv_up_nn (by omega), bv_up_row (by omega), bv_cp_row (by omega)]
  have e7 : bv_up (bv_up (bv_cp y 8 (C + 1) 0 0 50) C 1 (nI n)) 7 1 0 7 1 = 0 := bv_up_eq
  have eC : bv_up (bv_up (bv_cp y 8 (C + 1) 0 0 50) C 1 (nI n)) 7 1 0 C 1 = nI n := by rw [bv_up_row (by omega), bv_up_eq]
  have eB : ∀ i, i < 50 → bv_up (bv_up (bv_cp y 8 (C + 1) 0 0 50) C 1 (nI n)) 7 1 0 (C + 1) i = y 8 i := by
    intro i hi
    rw [bv_up_row (by omega), bv_up_row (by omega)]
    unfold bv_cp
    rw [if_pos (by omega)]
    congr 1
    omega
  have m62 : ∀ k, k ≠ 4 → (k < K ∨ K + 101 ≤ k) → bt_lay K 0 cd.length (bv_up (bv_up z 62 4 0) 62 K (nI cd.length)) 62 k = z 62 k := by
    intro k h1 h2
    rw [lay_o (by omega) hc.2, bv_up_nn (by omega), bv_up_nn (by omega)]
  have m4 : bt_lay K 0 cd.length (bv_up (bv_up z 62 4 0) 62 K (nI cd.length)) 62 4 = 0 := by
    rw [lay_o (by omega) hc.2, bv_up_nn (by omega), bv_up_eq]
  have newX : bt_X u (bv_up (bv_up (bv_cp y 8 (C + 1) 0 0 50) C 1 (nI n)) 7 1 0 (C + 1)) (bv_up (bv_up (bv_cp y 8 (C + 1) 0 0 50) C 1 (nI n)) 7 1 0 C 1) (fun k => bt_lay K 0 cd.length (bv_up (bv_up z 62 4 0) 62 K (nI cd.length)) 62 (K + k)) := by
    refine ⟨n, hn.2, eC, Or.inr ⟨hn.1, cd, ?_, hc.1, hc.2, ?_, ?_⟩⟩
    · rw [px_src_cg eB]
      exact hp
    · dsimp only
      rw [lay_o (by omega) hc.2, Nat.add_zero, bv_up_eq]
    · intro k hk'
      have e66 : bv_up (bv_up z 62 4 0) 62 K (nI cd.length) 66 = z 66 := by rw [bv_up_row (by omega), bv_up_row (by omega)]
      have e67 : bv_up (bv_up z 62 4 0) 62 K (nI cd.length) 67 = z 67 := by rw [bv_up_row (by omega), bv_up_row (by omega)]
      obtain ⟨p1, p2⟩ := h66 k hk'
      dsimp only
      constructor
      · unfold bt_lay
        rw [if_pos (by omega), e66, ← p1]
        congr 1
        omega
      · unfold bt_lay
        rw [if_neg (by omega), if_pos (by omega), e67, ← p2]
        congr 1
        omega
  refine J_town h (fun a ha => row7 a (by omega) (by omega) (by omega)) (fun a ha => by rw [lay_r ha, bv_up_row ha, bv_up_row ha]) ?_ ?_
  · obtain ⟨⟨g1, g2, g3, g4, g5⟩, h2, h3, h4, h5, h6⟩ := h.1.1
    refine ⟨⟨?_, ?_, ?_, ⟨0, by omega, e7⟩, ?_⟩, ?_, ?_, ?_, ?_, ?_⟩
    · rw [row7 _ (by omega) (by omega) (by omega)]; exact g1
    · rw [row7 _ (by omega) (by omega) (by omega)]; exact g2
    · rw [row7 _ (by omega) (by omega) (by omega)]; exact g3
    · rw [row7 _ (by omega) (by omega) (by omega)]; exact g5
    · intro i hi; rw [row7 _ (by omega) (by omega) (by omega)]; exact h2 i hi
    · intro i hi; rw [row7 _ (by omega) (by omega) (by omega)]; exact h3 i hi
    · intro i hi; rw [row7 _ (by omega) (by omega) (by omega)]; exact h4 i hi
    · intro b hb; rw [row7 _ (by omega) (by omega) (by omega)]; exact h5 b hb
    · intro i hi
      obtain ⟨b1, b2, b3⟩ := h6 i hi
      match u, hu with
      | 0, _ =>
        have hC9 : C = 9 := by omega
        subst hC9
        exact ⟨by rw [row7 _ (by omega) (by omega) (by omega)]; exact b1, by rw [eB i hi]; exact b1, by rw [row7 _ (by omega) (by omega) (by omega)]; exact b3⟩
      | 1, _ =>
        have hC9 : C = 11 := by omega
        subst hC9
        exact ⟨by rw [row7 _ (by omega) (by omega) (by omega)]; exact b1, by rw [row7 _ (by omega) (by omega) (by omega)]; exact b2, by rw [eB i hi]; exact b1⟩
  · obtain ⟨⟨g1, g2, g3, g4, g5, g6⟩, h2, h3, h4, h5, h6, h7, h8, h9⟩ := h.1.2
    refine ⟨⟨?_, ?_, ?_, ?_, ?_, ?_⟩, ?_, ?_, ?_, ?_, ?_, ?_, ?_, ?_⟩
    · rw [m62 _ (by omega) (by omega), row7 _ (by omega) (by omega) (by omega)]; exact g1
    · rw [m62 _ (by omega) (by omega), row7 _ (by omega) (by omega) (by omega)]; exact g2
    · rw [m62 _ (by omega) (by omega), row7 _ (by omega) (by omega) (by omega)]; exact g3
    · rw [m62 _ (by omega) (by omega), row7 _ (by omega) (by omega) (by omega)]; exact g4
    · rw [m4]
      exact e7.symm
    · rw [m62 _ (by omega) (by omega), row7 _ (by omega) (by omega) (by omega)]; exact g6
    · intro i hi; rw [m62 _ (by omega) (by omega), row7 _ (by omega) (by omega) (by omega)]; exact h2 i hi
    · intro i hi; rw [m62 _ (by omega) (by omega), row7 _ (by omega) (by omega) (by omega)]; exact h3 i hi
    · intro i hi; rw [m62 _ (by omega) (by omega), row7 _ (by omega) (by omega) (by omega)]; exact h4 i hi
    · intro b hb i hi; rw [m62 _ (by omega) (by omega), row7 _ (by omega) (by omega) (by omega)]; exact h5 b hb i hi
    · intro i hi; rw [m62 _ (by omega) (by omega), row7 _ (by omega) (by omega) (by omega)]; exact h6 i hi
    · intro i hi; rw [m62 _ (by omega) (by omega), row7 _ (by omega) (by omega) (by omega)]; exact h7 i hi
    · match u, hu with
      | 0, _ =>
        have hC9 : C = 9 := by omega
        have hK9 : K = 169 := by omega
        subst hC9
        subst hK9
        exact newX
      | 1, _ =>
        rw [row7 _ (by omega) (by omega) (by omega), row7 _ (by omega) (by omega) (by omega)]
        obtain ⟨n', w1, w2, w3⟩ := h8
        refine ⟨n', w1, w2, ?_⟩
        rcases w3 with ⟨w3, w4⟩ | ⟨w3, cd', w4, w5, w6, w7, w8⟩
        · exact Or.inl ⟨w3, by dsimp only; rw [m62 _ (by omega) (by omega)]; exact w4⟩
        · exact Or.inr ⟨w3, cd', w4, w5, w6, by dsimp only; rw [m62 _ (by omega) (by omega)]; exact w7, fun k hk' => by dsimp only; rw [m62 _ (by omega) (by omega), m62 _ (by omega) (by omega)]; exact w8 k hk'⟩
    · match u, hu with
      | 1, _ =>
        have hC9 : C = 11 := by omega
        have hK9 : K = 270 := by omega
        subst hC9
        subst hK9
        exact newX
      | 0, _ =>
        rw [row7 _ (by omega) (by omega) (by omega), row7 _ (by omega) (by omega) (by omega)]
        obtain ⟨n', w1, w2, w3⟩ := h9
        refine ⟨n', w1, w2, ?_⟩
        rcases w3 with ⟨w3, w4⟩ | ⟨w3, cd', w4, w5, w6, w7, w8⟩
        · exact Or.inl ⟨w3, by dsimp only; rw [m62 _ (by omega) (by omega)]; exact w4⟩
        · exact Or.inr ⟨w3, cd', w4, w5, w6, by dsimp only; rw [m62 _ (by omega) (by omega)]; exact w7, fun k hk' => by dsimp only; rw [m62 _ (by omega) (by omega), m62 _ (by omega) (by omega)]; exact w8 k hk'⟩
