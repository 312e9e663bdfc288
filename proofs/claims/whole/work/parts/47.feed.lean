-- ===== feed =====
theorem J_tape {c m : bv_Mem} {i : Nat} {v : Int32} (hi : i < 50) (hv : bt_by v) (h : bv_J c m) : bv_J (bv_up c 8 i v) (bv_up m 62 (99 + i) (v &&& 255)) := by
  refine J_town h (fun x hx => bv_up_row (by omega)) (fun x hx => bv_up_row hx) (W_up ?_ h.1.1) ?_
  · refine ⟨fun q => absurd q (by decide), fun q => absurd q (by decide), fun q => absurd q (by decide), fun q => absurd q (by decide), fun q => absurd q (by decide), fun q => absurd q (by decide), fun q => absurd q (by decide), fun q => absurd q (by decide), fun q => absurd q (by decide), fun _ => hv⟩
  · obtain ⟨⟨g1, g2, g3, g4, g5, g6⟩, h2, h3, h4, h5, h6, h7, h8, h9⟩ := h.1.2
    refine ⟨⟨?_, ?_, ?_, ?_, ?_, ?_⟩, ?_, ?_, ?_, ?_, ?_, ?_, ?_, ?_⟩
    · rw [bv_up_nn (by omega), bv_up_nn (by omega)]; exact g1
    · rw [bv_up_nn (by omega), bv_up_nn (by omega)]; exact g2
    · rw [bv_up_nn (by omega), bv_up_nn (by omega)]; exact g3
    · rw [bv_up_nn (by omega), bv_up_nn (by omega)]; exact g4
    · rw [bv_up_nn (by omega), bv_up_nn (by omega)]; exact g5
    · rw [bv_up_nn (by omega), bv_up_nn (by omega)]; exact g6
    · intro k hk; rw [bv_up_nn (by omega), bv_up_nn (by omega)]; exact h2 k hk
    · intro k hk; rw [bv_up_nn (by omega), bv_up_nn (by omega)]; exact h3 k hk
    · intro k hk; rw [bv_up_nn (by omega), bv_up_nn (by omega)]; exact h4 k hk
    · intro b hb k hk; rw [bv_up_nn (by omega), bv_up_nn (by omega)]; exact h5 b hb k hk
    · intro k hk
      by_cases e : k = i
      · subst e
        rw [bv_up_eq, show (1 + 7 : Nat) = 8 from rfl, bv_up_eq]
      · rw [bv_up_nn (by omega), bv_up_nn (by omega)]; exact h6 k hk
    · intro k hk; rw [bv_up_nn (by omega), bv_up_nn (by omega)]; exact h7 k hk
    · have e3 : (fun j => bv_up m 62 (99 + i) (v &&& 255) 62 (169 + j)) = fun j => m 62 (169 + j) := funext fun j => bv_up_nn (by omega)
      rw [e3, bv_up_row (by omega), bv_up_row (by omega)]
      exact h8
    · have e3 : (fun j => bv_up m 62 (99 + i) (v &&& 255) 62 (270 + j)) = fun j => m 62 (270 + j) := funext fun j => bv_up_nn (by omega)
      rw [e3, bv_up_row (by omega), bv_up_row (by omega)]
      exact h9
theorem by_2 (x : Int32) : x.toInt8.toInt32.toInt8.toInt32 = x.toInt8.toInt32 := by simp
theorem by_ok (x : Int32) : bt_by x.toInt8.toInt32 := by_2 x
/-- a byte under 255 -/
theorem by_and (x : Int32) : x.toInt8.toInt32 &&& 255 = x &&& 255 := by
  apply Int32.toBitVec_inj.mp
  apply BitVec.eq_of_getLsbD_eq
  intro j hj
  show ((BitVec.signExtend 32 (BitVec.signExtend 8 x.toBitVec)) &&& 255#32).getLsbD j = (x.toBitVec &&& 255#32).getLsbD j
  rw [BitVec.getLsbD_and, BitVec.getLsbD_and, BitVec.getLsbD_signExtend]
  by_cases h8 : j < 8
  · rw [if_pos h8, BitVec.getLsbD_signExtend, if_pos (by omega), decide_eq_true hj, decide_eq_true h8, Bool.true_and, Bool.true_and]
  · have e : (255#32).getLsbD j = false := by
      rw [BitVec.getLsbD_ofNat]
      have : Nat.testBit 255 j = false := Nat.testBit_lt_two_pow (Nat.lt_of_lt_of_le (by decide : 255 < 2 ^ 8) (Nat.pow_le_pow_right (by omega) (by omega)))
      rw [this, Bool.and_false]
    rw [e, Bool.and_false, Bool.and_false]
theorem fd_k : ∀ i, i < 8 → (8 : Int32) * nI i = nI (8 * i) ∧ (((8 : Int32) * nI i).toInt64.toUInt64 &&& Int64.toUInt64 63).toBitVec % 64 = BitVec.ofNat 64 (8 * i) ∧ (((8 : Int32) * nI i).toInt64 &&& 63).toBitVec.smod 64 = BitVec.ofNat 64 (8 * i) := by decide
theorem fd_b (x : Int64) {i : Nat} (hi : i < 8) : ((x.toUInt64 >>> (((8 : Int32) * nI i).toInt64.toUInt64 &&& Int64.toUInt64 63)).toInt64).toInt32 &&& 255 = ((x >>> (((8 : Int32) * nI i).toInt64 &&& 63)) &&& 255).toInt32 := by
  obtain ⟨-, k1, k2⟩ := fd_k i hi
  apply Int32.toBitVec_inj.mp
  apply BitVec.eq_of_getLsbD_eq
  intro j hj
  show ((BitVec.signExtend 32 (x.toBitVec >>> ((((8 : Int32) * nI i).toInt64.toUInt64 &&& Int64.toUInt64 63).toBitVec % 64))) &&& 255#32).getLsbD j = (BitVec.signExtend 32 ((x.toBitVec.sshiftRight' ((((8 : Int32) * nI i).toInt64 &&& 63).toBitVec.smod 64)) &&& 255#64)).getLsbD j
  rw [k1, k2, BitVec.getLsbD_and, BitVec.getLsbD_signExtend, BitVec.getLsbD_signExtend, if_pos (by omega), if_pos (by omega), BitVec.getLsbD_and, decide_eq_true hj, Bool.true_and, Bool.true_and]
  have e : (255#32).getLsbD j = (255#64).getLsbD j := by
    rw [BitVec.getLsbD_ofNat, BitVec.getLsbD_ofNat, decide_eq_true hj, decide_eq_true (by omega : j < 64)]
  have n8 : (BitVec.ofNat 64 (8 * i)).toNat = 8 * i := by
    rw [BitVec.toNat_ofNat]
    omega
  rw [e]
  by_cases h8 : j < 8
  · congr 1
    show (x.toBitVec >>> (BitVec.ofNat 64 (8 * i)).toNat).getLsbD j = (x.toBitVec.sshiftRight (BitVec.ofNat 64 (8 * i)).toNat).getLsbD j
    rw [n8, BitVec.getLsbD_ushiftRight, BitVec.getLsbD_sshiftRight, if_pos (by omega)]
    have : ¬ (64 ≤ j) := by omega
    simp [this]
  · have z : (255#64).getLsbD j = false := by
      rw [BitVec.getLsbD_ofNat]
      have : Nat.testBit 255 j = false := Nat.testBit_lt_two_pow (Nat.lt_of_lt_of_le (by decide : 255 < 2 ^ 8) (Nat.pow_le_pow_right (by omega) (by omega)))
      rw [this, Bool.and_false]
    rw [z, Bool.and_false, Bool.and_false]
theorem fd_255 (x : Int32) : (x &&& 255) &&& 255 = x &&& 255 := by
  rw [Int32.and_assoc]
  rfl
theorem feed_lp {x : Int64} {N : Nat} (hN : N ≤ 8) : ∀ (n i f7 f8 T : Nat) (c m : bv_Mem), bv_J c m → c 7 1 = nI T → T + n ≤ 50 → i + n = N → n < f7 → n < f8 → bv_out (b_X7_feed_42 f7 x (nI N) (nI i)) (b_X8_feed_40 f8 x (nI N) (nI i)) c m := by
  intro n
  induction n with
  | zero =>
    intro i f7 f8 T c m h eT hT hi h7 h8
    obtain ⟨f7, rfl⟩ : ∃ k, f7 = k + 1 := ⟨f7 - 1, by omega⟩
    obtain ⟨f8, rfl⟩ : ∃ k, f8 = k + 1 := ⟨f8 - 1, by omega⟩
    have e1 : nI N ≤ nI i := nI_le (by omega) (by omega)
    refine out_ro (nI T) h ?_ ?_
    · rw [b_X7_feed_42, if_pos e1, eT]
    · rw [b_X8_feed_40, if_pos e1, RJ_t h, eT]
  | succ n ih =>
    intro i f7 f8 T c m h eT hT hi h7 h8
    obtain ⟨f7, rfl⟩ : ∃ k, f7 = k + 1 := ⟨f7 - 1, by omega⟩
    obtain ⟨f8, rfl⟩ : ∃ k, f8 = k + 1 := ⟨f8 - 1, by omega⟩
    have e1 : ¬ nI N ≤ nI i := nI_ge (by omega) (by omega)
    have e50 : ¬ (50 : Int32) ≤ nI T := nI_ge (b := 50) (by omega) (by omega)
    have eT8 : m 62 4 = nI T := (RJ_t h).trans eT
    have e9 : bv_in (99 + nI T) 371 = true := in_lit (a := 99) (by omega) (by omega)
    have e10 : (99 + nI T).toNatClampNeg = 99 + T := c_lit 99 T (by omega)
    have rf : bv_RF 7 0 = some 8 ∧ bv_isC 74 7 4 = true ∧ bv_isA 74 8 1 (bv_len 8) = true ∧ bv_len 8 = 50 := by decide
    have hb := fd_b x (i := i) (by omega)
    generalize hw : ((x.toUInt64 >>> (((8 : Int32) * nI i).toInt64.toUInt64 &&& Int64.toUInt64 63)).toInt64).toInt32 = w at hb
    have j1 : bv_J (bv_up c 8 T (w &&& 255).toInt8.toInt32) (bv_up m 62 (99 + T) (w &&& 255)) := by
      have := J_tape (i := T) (by omega) (by_ok (w &&& 255)) h
      rw [by_and, fd_255] at this
      exact this
    have j2 : bv_J (bv_up (bv_up c 8 T (w &&& 255).toInt8.toInt32) 7 1 (nI (T + 1))) (bv_up (bv_up m 62 (99 + T) (w &&& 255)) 62 4 (nI (T + 1))) := J_up 0 (by unfold bt_cor; omega) (by
      refine ⟨fun q => absurd q (by decide), fun q => absurd q (by decide), fun q => absurd q (by decide), fun _ _ => ⟨T + 1, by omega, rfl⟩, fun q => absurd q (by decide), fun q => absurd q (by decide), fun q => absurd q (by decide), fun q => absurd q (by decide), fun q => absurd q (by decide), fun q => absurd q (by decide)⟩) j1
    have a7 : f_X4_append 7 (w &&& 255) c = some (bv_up (bv_up c 8 T (w &&& 255).toInt8.toInt32) 7 1 (nI (T + 1))) := by
      unfold f_X4_append
      rw [if_pos rf.2.1, eT, if_neg e50, bd1 rf.1, if_pos rf.2.2.1, rf.2.2.2, if_pos (nb_in (by omega) (by omega)), nI_clamp (by omega), by_2, bv_up_nn (by omega), eT, nI_1]
    obtain ⟨r, c', m', k1, k2, k3, k4, k5⟩ := ih (i + 1) f7 f8 (T + 1) _ _ j2 bv_up_eq (by omega) (by omega) (by omega) (by omega)
    refine ⟨r, c', m', ?_, ?_, k3, ?_, ?_⟩
    · rw [b_X7_feed_42, if_neg e1, hw, bd1 a7, show nI i + 1 = nI (i + 1) from nI_1 i, k1]
    · rw [b_X8_feed_40, if_neg e1, eT8, if_pos e9, e10, ← hb, bv_up_nn (by omega), eT8, show nI i + 1 = nI (i + 1) from nI_1 i, show nI T + 1 = nI (T + 1) from nI_1 T, k2]
    · intro a ha
      rw [k4 a ha, bv_up_row (by omega), bv_up_row (by omega)]
    · intro a ha
      rw [k5 a ha, bv_up_row (by omega), bv_up_row (by omega)]
theorem S_feed : bv_S_feed bv_I := by
  intro x n mi hI
  refine lock (F7 := f_X7_feed x n) (F8 := f_X8_feed x n) ?_ mi hI
  intro c m h
  by_cases hn : 1 ≤ n ∧ n ≤ 8
  · obtain ⟨N, hN1, hN, rfl⟩ := n_of0 hn (n := 8) rfl
    obtain ⟨T, hT, eT⟩ := WJ_tap h
    have w7 : f_X7_isWithin (nI N) 1 8 c = some 1 := by rw [win7, if_pos hn]
    have w8 : f_X8_in (nI N) 1 8 m = some 1 := by rw [win8, if_pos hn]
    have es : c 7 1 + nI N = nI (T + N) := by rw [eT, nI_add]
    have es8 : m 62 4 + nI N = nI (T + N) := by rw [RJ_t h, es]
    by_cases hq : T + N ≤ 50
    · have e9 : nI (T + N) ≤ 50 := nI_le (b := 50) hq (by omega)
      obtain ⟨r, c', m', k1, k2, k3⟩ := feed_lp (x := x) hN N 0 400 400 T c m h eT hq (by omega) (by omega) (by omega)
      refine ⟨r, c', m', ?_, ?_, k3⟩
      · unfold f_X7_feed
        rw [bd1 w7, if_neg (by decide), es, if_pos e9]
        exact k1
      · unfold f_X8_feed
        rw [bd1 w8, if_neg (by decide), es8, if_pos e9]
        exact k2
    · have e9 : ¬ nI (T + N) ≤ 50 := nI_ge (a := 50) (by omega) (by omega)
      refine out_err 4 (-1000000004) h ?_ ?_
      · unfold f_X7_feed
        rw [bd1 w7, if_neg (by decide), es, if_neg e9, bd1 (x7_e4 c)]
      · unfold f_X8_feed
        rw [bd1 w8, if_neg (by decide), es8, if_neg e9, bd1 (x8_e4 m)]
  · have w7 : f_X7_isWithin n 1 8 c = some 0 := by rw [win7, if_neg hn]
    have w8 : f_X8_in n 1 8 m = some 0 := by rw [win8, if_neg hn]
    refine out_err 1 (-1000000001) h ?_ ?_
    · unfold f_X7_feed
      rw [bd1 w7, if_pos rfl, bd1 (x7_e1 c)]
    · unfold f_X8_feed
      rw [bd1 w8, if_pos rfl, bd1 (x8_e1 m)]
