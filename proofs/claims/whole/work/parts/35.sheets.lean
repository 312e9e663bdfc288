theorem win7y {a b c : Int32} (h : b ≤ a ∧ a ≤ c) (mi : bv_Mem) : f_X7_isWithin a b c mi = some 1 := by rw [win7, if_pos h]
theorem win7n {a b c : Int32} (h : ¬ (b ≤ a ∧ a ≤ c)) (mi : bv_Mem) : f_X7_isWithin a b c mi = some 0 := by rw [win7, if_neg h]
theorem win8y {a b c : Int32} (h : b ≤ a ∧ a ≤ c) (mi : bv_Mem) : f_X8_in a b c mi = some 1 := by rw [win8, if_pos h]
theorem win8n {a b c : Int32} (h : ¬ (b ≤ a ∧ a ≤ c)) (mi : bv_Mem) : f_X8_in a b c mi = some 0 := by rw [win8, if_neg h]
theorem nt8 {s : Nat} (hs : s < 4) (mi : bv_Mem) : f_X8_notThere (nI s) mi = some (if mi 71 s = 0 then -1000000002 else 0) := by
  have hp : 0 ≤ nI s ∧ nI s ≤ 3 := n_in (n := 3) (by omega) rfl (by omega)
  have e1 : bv_in (nI s) 4 = true := nb_in hs (by omega)
  unfold f_X8_notThere
  rw [sh8, if_pos hp]
  simp only [Option.bind_some, e1, if_true, nI_clamp (n := s) (by omega)]
  by_cases h : mi 71 s = 0
  · simp [h]
  · simp [h]
theorem ntx8 {p : Int32} (hp : ¬ (0 ≤ p ∧ p ≤ 3)) (mi : bv_Mem) : f_X8_notThere p mi = some (-1000000001) := by
  simp [f_X8_notThere, sh8, hp]
theorem num8 (v : Int32) : bt_num (v &&& 255) v.toInt8.toInt32 := by
  have h1 : (v &&& 255).toBitVec.toNat = v.toBitVec.toNat % 256 := by
    have := pk_and v (m := 255) 8 rfl
    rw [this, pk_tn (by omega)]
  have h2 : v.toInt8.toInt32.toInt = (v.toBitVec.toNat : Int).bmod 256 := by
    rw [Int8.toInt_toInt32, Int32.toInt_toInt8]
    rw [← Int32.toInt_toBitVec, BitVec.toInt_eq_toNat_bmod]
    rw [Int.bmod_bmod_of_dvd (by decide)]
  have h3 : v &&& 255 = nI (v.toBitVec.toNat % 256) := pk_and v (m := 255) 8 rfl
  have h4 : (v &&& 255).toInt = (v.toBitVec.toNat % 256 : Nat) := by
    rw [h3, nI_toInt (by omega)]
  unfold bt_num
  rw [i_lt, i_le, ← Int32.toInt_inj, h2, h4]
  have h5 : (0 : Int32).toInt = 0 := rfl
  have h6 : (100 : Int32).toInt = 100 := rfl
  rw [h5, h6]
  rw [Int.bmod_def]
  split <;> omega
theorem num16 (v : Int32) : bt_num (v &&& 65535) v.toInt16.toInt32 := by
  have h2 : v.toInt16.toInt32.toInt = (v.toBitVec.toNat : Int).bmod 65536 := by
    rw [Int16.toInt_toInt32, Int32.toInt_toInt16]
    rw [← Int32.toInt_toBitVec, BitVec.toInt_eq_toNat_bmod]
    rw [Int.bmod_bmod_of_dvd (by decide)]
  have h3 : v &&& 65535 = nI (v.toBitVec.toNat % 65536) := pk_and v (m := 65535) 16 rfl
  have h4 : (v &&& 65535).toInt = (v.toBitVec.toNat % 65536 : Nat) := by
    rw [h3, nI_toInt (by omega)]
  unfold bt_num
  rw [i_lt, i_le, ← Int32.toInt_inj, h2, h4]
  have h5 : (0 : Int32).toInt = 0 := rfl
  have h6 : (100 : Int32).toInt = 100 := rfl
  rw [h5, h6]
  rw [Int.bmod_def]
  split <;> omega
/-- one number of a sheet -/
theorem S_num {c m : bv_Mem} {s i : Nat} {v w : Int32} (hs : s < 4) (hi : i < 40) (hn : bt_num v w) (h : bt_S c m) : bt_S (bv_up c (54 + 2 * s) i v) (bv_up m 73 (40 * s + i) w) := by
  intro t ht
  obtain ⟨k1, k2, k3, k4, k5⟩ := h t ht
  refine ⟨?_, ?_, ?_, ?_, fun j hj => ?_⟩
  · rw [bv_up_row (by omega), bv_up_row (by omega)]; exact k1
  · rw [bv_up_row (by omega), bv_up_row (by omega)]; exact k2
  · rw [bv_up_row (by omega)]; exact k3
  · rw [bv_up_row (by omega)]; exact k4
  · by_cases q : t = s ∧ j = i
    · obtain ⟨rfl, rfl⟩ := q
      rw [bv_up_eq, bv_up_eq]
      exact hn
    · rw [bv_up_nn (by omega), bv_up_nn (by omega)]
      exact k5 j hj
set_option maxHeartbeats 4000000 in
theorem S_put : bv_S_put bv_I := by
  intro p i v mi hI
  refine lock (F7 := f_X7_put p i v) (F8 := f_X8_put p i v) ?_ mi hI
  intro c m h
  by_cases hp : 0 ≤ p ∧ p ≤ 3
  · obtain ⟨s, hs, rfl⟩ := n_of hp (n := 3) rfl
    obtain ⟨h1, h2, h3, h4, h5⟩ := sh_rf s (by omega)
    have e1 : bv_in (nI s) 4 = true := nb_in (by omega) (by omega)
    have e2 : (nI s).toNatClampNeg = s := nI_clamp (by omega)
    obtain ⟨k1, k2, k3, ⟨u, hu, k4⟩, k5⟩ := h.2.2.2.1 s (by omega)
    by_cases hb : c (53 + 2 * s) 0 = 0
    · refine out_err 2 (-1000000002) h ?_ ?_
      · simp [f_X7_put, sh7, hp, e1, e2, h1, h2, hb, x7_e2]
      · simp [f_X8_put, b_X8_put_33, b_X8_put_35, nt8 (show s < 4 by omega), k1, hb, x8_e2]
    · by_cases hi : 0 ≤ i ∧ i ≤ nI u - 1
      · obtain ⟨j, hj, rfl⟩ := n_of1 hi (by omega)
        have e3 : bv_in (nI j) 40 = true := nb_in (by omega) (by omega)
        have e4 : (nI j).toNatClampNeg = j := nI_clamp (by omega)
        have e5 : (40 : Int32) * nI s + nI j = nI (40 * s + j) := lt4 (a := 40)
        have e6 : bv_in (nI (40 * s + j)) 160 = true := nb_in (by omega) (by omega)
        have e7 : (nI (40 * s + j)).toNatClampNeg = 40 * s + j := nI_clamp (by omega)
        have main : ∀ x y : Int32, bt_num x y → f_X7_put (nI s) (nI j) v c = some (1, bv_up c (54 + 2 * s) j x) → f_X8_put (nI s) (nI j) v m = some (1, bv_up m 73 (40 * s + j) y) → bv_out (f_X7_put (nI s) (nI j) v) (f_X8_put (nI s) (nI j) v) c m := by
          intro x y hxy g7 g8
          exact ⟨1, _, _, g7, g8, J_S h (fun a ha => bv_up_row (by omega)) (fun a ha => bv_up_row (by omega)) (S_num (by omega) (by omega) hxy h.2.2.2.1), fun a ha => bv_up_row (by omega), fun a ha => bv_up_row (by omega)⟩
        by_cases b8 : c (53 + 2 * s) 0 = 8
        · refine main (v &&& 255) v.toInt8.toInt32 (num8 v) ?_ ?_
          · simp [f_X7_put, f_X3_cut, sh7, win7y hi, hp, e1, e2, h1, h2, h3, h4, h5, b8, k4, e3, e4]
          · simp [f_X8_put, b_X8_put_33, b_X8_put_35, nt8 (show s < 4 by omega), win8, k1, k2, b8, k4, hi, e1, e2, e5, e6, e7]
        · by_cases b16 : c (53 + 2 * s) 0 = 16
          · refine main (v &&& 65535) v.toInt16.toInt32 (num16 v) ?_ ?_
            · simp [f_X7_put, f_X3_cut, sh7, win7y hi, hp, e1, e2, h1, h2, h3, h4, h5, b16, k4, e3, e4]
            · simp [f_X8_put, b_X8_put_33, b_X8_put_35, nt8 (show s < 4 by omega), win8, k1, k2, b16, k4, hi, e1, e2, e5, e6, e7]
          · refine main v v (Or.inl rfl) ?_ ?_
            · simp [f_X7_put, f_X3_cut, sh7, win7y hi, hp, e1, e2, h1, h2, h3, h4, h5, b8, b16, hb, k4, e3, e4]
            · simp [f_X8_put, b_X8_put_33, b_X8_put_35, nt8 (show s < 4 by omega), win8, k1, k2, b8, b16, hb, k4, hi, e1, e2, e5, e6, e7]
      · refine out_err 1 (-1000000001) h ?_ ?_
        · simp [f_X7_put, sh7, win7, hp, e1, e2, h1, h2, hb, k4, hi, x7_e1]
        · simp [f_X8_put, b_X8_put_35, nt8 (show s < 4 by omega), win8, k1, k2, hb, k4, hi, e1, e2, x8_e1]
  · refine out_err 1 (-1000000001) h ?_ ?_
    · simp [f_X7_put, sh7, hp, x7_e1]
    · simp [f_X8_put, b_X8_put_33, b_X8_put_35, ntx8 hp, x8_e1]
theorem num_in {x y : Int32} (h : bt_num x y) : (0 ≤ x ∧ x ≤ 20 ↔ 0 ≤ y ∧ y ≤ 20) ∧ (0 ≤ x ∧ x ≤ 20 → x = y) := by
  rcases h with rfl | ⟨h1, h2⟩
  · exact ⟨Iff.rfl, fun _ => rfl⟩
  · rw [i_lt] at h1
    rw [i_le] at h2
    have h5 : (0 : Int32).toInt = 0 := rfl
    have h6 : (100 : Int32).toInt = 100 := rfl
    have h7 : (20 : Int32).toInt = 20 := rfl
    rw [h5] at h1
    rw [h6] at h2
    refine ⟨⟨fun q => ?_, fun q => ?_⟩, fun q => ?_⟩ <;> (simp only [i_le, h5, h7] at q; exfalso; omega)
set_option maxHeartbeats 4000000 in
theorem hei_loop {s u : Nat} (hs : s < 4) (hu : u ≤ 40) : ∀ (n i f7 f8 : Nat) (c m : bv_Mem), i + n = 20 → n < f7 → n < f8 → bv_J c m → c (53 + 2 * s) 1 = nI u → i ≤ u → bv_out (b_X7_heights_35 f7 (53 + 2 * s) (nI i)) (b_X8_heights_18 f8 (nI s) (nI i)) c m := by
  obtain ⟨h1, h2, h3, h4, h5⟩ := sh_rf s hs
  have e1 : bv_in (nI s) 4 = true := nb_in (by omega) (by omega)
  have e2 : (nI s).toNatClampNeg = s := nI_clamp (by omega)
  intro n
  induction n with
  | zero =>
    intro i f7 f8 c m hi hf7 hf8 h hc hiu
    obtain ⟨f7, rfl⟩ : ∃ k, f7 = k + 1 := ⟨f7 - 1, by omega⟩
    obtain ⟨f8, rfl⟩ : ∃ k, f8 = k + 1 := ⟨f8 - 1, by omega⟩
    have e : i = 20 := by omega
    subst e
    refine out_ro (nI 20) h ?_ ?_
    · rw [b_X7_heights_35, if_pos (by decide)]
    · rw [b_X8_heights_18, if_pos e1]
      by_cases q : m 72 (nI s).toNatClampNeg ≤ nI 20
      · rw [if_pos q]
      · rw [if_neg q, if_pos (by decide)]
  | succ n ih =>
    intro i f7 f8 c m hi hf7 hf8 h hc hiu
    obtain ⟨f7, rfl⟩ : ∃ k, f7 = k + 1 := ⟨f7 - 1, by omega⟩
    obtain ⟨f8, rfl⟩ : ∃ k, f8 = k + 1 := ⟨f8 - 1, by omega⟩
    obtain ⟨k1, k2, k3, k4, k5⟩ := h.2.2.2.1 s hs
    have e20 : ¬ (20 : Int32) ≤ nI i := nI_ge (b := 20) (by omega) (by omega)
    by_cases hq : i = u
    · subst hq
      refine out_ro (nI i) h ?_ ?_
      · rw [b_X7_heights_35, if_neg e20, if_pos h2, hc, if_pos (nI_le (Nat.le_refl _) (by omega))]
      · rw [b_X8_heights_18, if_pos e1, e2, k2, hc, if_pos (nI_le (Nat.le_refl _) (by omega))]
    · have eu : ¬ nI u ≤ nI i := nI_ge (by omega) (by omega)
      have e3 : bv_in (nI i) 40 = true := nb_in (by omega) (by omega)
      have e4 : (nI i).toNatClampNeg = i := nI_clamp (by omega)
      have e5 : (40 : Int32) * nI s + nI i = nI (40 * s + i) := lt4 (a := 40)
      have e6 : bv_in (nI (40 * s + i)) 160 = true := nb_in (by omega) (by omega)
      have e7 : (nI (40 * s + i)).toNatClampNeg = 40 * s + i := nI_clamp (by omega)
      have e8 : bv_in (nI i) 20 = true := nb_in (by omega) (by omega)
      have e9 : bv_in (11 + nI i) 371 = true := in_lit (a := 11) (by omega) (by omega)
      have e10 : (11 + nI i).toNatClampNeg = 11 + i := c_lit 11 i (by omega)
      obtain ⟨n1, n2⟩ := num_in (k5 i (by omega))
      by_cases hr : 0 ≤ c (54 + 2 * s) i ∧ c (54 + 2 * s) i ≤ 20
      · have hr8 := n1.mp hr
        have ev := n2 hr
        obtain ⟨w, hw, ew⟩ := n_of hr (n := 20) rfl
        have hJ := J_up (v := nI w) 0 (a := 3) (s := i) (k := 11 + i) (by unfold bt_cor; omega) (ok_height hw) h
        obtain ⟨r, c', m', q1, q2, q3, q4, q5⟩ := ih (i + 1) f7 f8 _ _ (by omega) (by omega) (by omega) hJ (by rw [bv_up_row (by omega)]; exact hc) (by omega)
        refine ⟨r, c', m', ?_, ?_, q3, fun a ha => (q4 a ha).trans (bv_up_row (by omega)), fun a ha => (q5 a ha).trans (bv_up_row (by omega))⟩
        · rw [← q1, b_X7_heights_35, if_neg e20, if_pos h2, hc, if_neg eu]
          simp [h3, h4, h5, e3, e4, e8, win7y hr, nI_1]
          rw [ew]
        · rw [← q2, b_X8_heights_18, if_pos e1, e2, k2, hc, if_neg eu, if_neg e20, e5, if_pos e6, e7, win8, if_pos hr8]
          simp [e9, e10, nI_1]
          rw [← ev, ew]
      · have hr8 : ¬ (0 ≤ m 73 (40 * s + i) ∧ m 73 (40 * s + i) ≤ 20) := fun q => hr (n1.mpr q)
        refine out_ro (nI i) h ?_ ?_
        · rw [b_X7_heights_35, if_neg e20, if_pos h2, hc, if_neg eu]
          simp [h3, h4, h5, e3, e4, win7, hr]
        · rw [b_X8_heights_18, if_pos e1, e2, k2, hc, if_neg eu, if_neg e20, e5, if_pos e6, e7, win8, if_neg hr8]
          simp
set_option maxHeartbeats 4000000 in
theorem S_heights : bv_S_heights bv_I := by
  intro p mi hI
  refine lock (F7 := f_X7_heights p) (F8 := f_X8_heights p) ?_ mi hI
  intro c m h
  by_cases hp : 0 ≤ p ∧ p ≤ 3
  · obtain ⟨s, hs, rfl⟩ := n_of hp (n := 3) rfl
    obtain ⟨h1, h2, h3, h4, h5⟩ := sh_rf s (by omega)
    have e1 : bv_in (nI s) 4 = true := nb_in (by omega) (by omega)
    have e2 : (nI s).toNatClampNeg = s := nI_clamp (by omega)
    obtain ⟨k1, k2, k3, ⟨u, hu, k4⟩, k5⟩ := h.2.2.2.1 s (by omega)
    by_cases hb : c (53 + 2 * s) 0 = 0
    · refine out_err 2 (-1000000002) h ?_ ?_
      · simp [f_X7_heights, sh7, hp, e1, e2, h1, h2, hb, x7_e2]
      · simp [f_X8_heights, nt8 (show s < 4 by omega), k1, hb, x8_e2]
    · obtain ⟨r, c', m', q1, q2, q3⟩ := hei_loop (s := s) (u := u) (by omega) hu 20 0 400 400 c m (by omega) (by omega) (by omega) h k4 (by omega)
      refine ⟨r, c', m', ?_, ?_, q3⟩
      · rw [← q1]
        simp [f_X7_heights, sh7, hp, e1, e2, h1, h2, hb, nI_0]
      · rw [← q2]
        simp [f_X8_heights, nt8 (show s < 4 by omega), k1, hb, nI_0]
  · refine out_err 1 (-1000000001) h ?_ ?_
    · simp [f_X7_heights, sh7, hp, x7_e1]
    · simp [f_X8_heights, ntx8 hp, x8_e1]
