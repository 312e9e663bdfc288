theorem t_add {a b : Nat} : nI a + nI b = nI (a + b) := nI_add a b
theorem c_lit (a p : Nat) (h : a + p < 2 ^ 31) : (nI a + nI p).toNatClampNeg = a + p := by rw [nI_add, nI_clamp h]
theorem in_lit {a p N : Nat} (h : a + p < N) (hN : N < 2 ^ 31) : bv_in (nI a + nI p) N = true := by rw [nI_add]; exact nb_in h hN
theorem RI_h {mi : bv_Mem} (h : bv_I mi) {i : Nat} (hi : i < 20) : mi 62 (11 + i) = mi 3 i := h.1.2.2.2.1 i hi
theorem RI_g {mi : bv_Mem} (h : bv_I mi) {i : Nat} (hi : i < 20) : mi 62 (31 + i) = mi 4 i := h.1.2.2.2.2.1 i hi
theorem RI_at {mi : bv_Mem} (h : bv_I mi) {i : Nat} (hi : i < 5) : mi 62 (6 + i) = mi 5 i := h.1.2.2.1 i hi
theorem RI_b {mi : bv_Mem} (h : bv_I mi) {b k : Nat} (hb : b < 8) (hk : k < 6) : mi 62 (51 + 6 * b + k) = mi (14 + b) k := h.1.2.2.2.2.2.1 b hb k hk
theorem RI_day {mi : bv_Mem} (h : bv_I mi) : mi 62 0 = mi 1 5 := h.1.2.1.1
theorem RI_z {mi : bv_Mem} (h : bv_I mi) : mi 62 1 = mi 1 6 := h.1.2.1.2.1
theorem RI_v {mi : bv_Mem} (h : bv_I mi) : mi 62 2 = mi 1 2 := h.1.2.1.2.2.1
theorem RI_f {mi : bv_Mem} (h : bv_I mi) : mi 62 3 = mi 1 4 := h.1.2.1.2.2.2.1
theorem RI_t {mi : bv_Mem} (h : bv_I mi) : mi 62 4 = mi 7 1 := h.1.2.1.2.2.2.2.1
theorem RI_w {mi : bv_Mem} (h : bv_I mi) : mi 62 5 = mi 1 11 := h.1.2.1.2.2.2.2.2
set_option maxHeartbeats 4000000 in
theorem S_land : bv_S_land bv_I := by
  intro p w v mi hI
  have herr : ∀ (h7 : f_X7_land p w v mi = some (-1000000001, er7 1 mi)) (h8 : f_X8_land p w v (er7 1 mi) = some (-1000000001, er8 1 (er7 1 mi))), ∃ (r : Int32) (m1 m2 : bv_Mem), f_X7_land p w v mi = some (r, m1) ∧ f_X8_land p w v m1 = some (r, m2) ∧ bv_I m2 := fun h7 h8 => ⟨_, _, _, h7, h8, I_err 1 hI rfl rfl⟩
  by_cases hp : 0 ≤ p ∧ p ≤ 19
  · obtain ⟨n, hn, rfl⟩ := n_of hp (n := 19) rfl
    by_cases hw : 0 ≤ w ∧ w ≤ 1
    · obtain ⟨k, hk, rfl⟩ := n_of hw (n := 1) rfl
      match k, hk with
      | 0, _ =>
        by_cases hv : 0 ≤ v ∧ v ≤ 20
        · obtain ⟨u, hu, rfl⟩ := n_of hv (n := 20) rfl
          refine ⟨mi 3 n, bv_up mi 3 n (nI u), bv_up (bv_up mi 3 n (nI u)) 62 (11 + n) (nI u), ?_, ?_, I_up 0 (by unfold bt_cor; omega) (ok_height hu) hI⟩
          · have e1 : bv_in (nI n) (bv_len 3) = true := nb_in (N := 20) (by omega) (by omega)
            simp [f_X7_land, b_X7_land_11, b_X7_land_72, pl7, win7, hp, hv, nI_0, e1, nI_clamp (n := n) (by omega)]
            decide
          · have e1 : bv_in (11 + nI n) 371 = true := in_lit (a := 11) (by omega) (by omega)
            have e2 : (11 + nI n).toNatClampNeg = 11 + n := c_lit 11 n (by omega)
            simp [f_X8_land, b_X8_land_29, f_X8_becomes, pl8, win8, hp, hv, nI_0, e1, e2]
            rw [bv_up_nn (Or.inl (by decide)), RI_h hI (by omega)]
        · refine herr ?_ ?_
          · simp [f_X7_land, b_X7_land_11, pl7, win7, hp, hv, nI_0, x7_e1]
          · simp [f_X8_land, b_X8_land_29, pl8, win8, hp, hv, nI_0, x8_e1]
      | 1, _ =>
        have h10 : ¬ nI 1 = 0 := by decide
        have h1 : 0 ≤ nI 1 ∧ nI 1 ≤ 1 := by decide
        by_cases hv : 0 ≤ v ∧ v ≤ 99
        · obtain ⟨u, hu, rfl⟩ := n_of hv (n := 99) rfl
          refine ⟨mi 4 n, bv_up mi 4 n (nI u), bv_up (bv_up mi 4 n (nI u)) 62 (31 + n) (nI u), ?_, ?_, I_up 0 (by unfold bt_cor; omega) (ok_miss hu) hI⟩
          · have e1 : bv_in (nI n) (bv_len 4) = true := nb_in (N := 20) (by omega) (by omega)
            simp [f_X7_land, b_X7_land_11, b_X7_land_72, pl7, win7, hp, hv, h10, h1, e1, nI_clamp (n := n) (by omega)]
            decide
          · have e1 : bv_in (31 + nI n) 371 = true := in_lit (a := 31) (by omega) (by omega)
            have e2 : (31 + nI n).toNatClampNeg = 31 + n := c_lit 31 n (by omega)
            simp [f_X8_land, b_X8_land_29, f_X8_becomes, pl8, win8, hp, hv, h10, h1, e1, e2]
            rw [bv_up_nn (Or.inl (by decide)), RI_g hI (by omega)]
        · refine herr ?_ ?_
          · simp [f_X7_land, b_X7_land_11, pl7, win7, hp, hv, h10, h1, x7_e1]
          · simp [f_X8_land, b_X8_land_29, pl8, win8, hp, hv, h10, h1, x8_e1]
    · have hw0 : ¬ w = 0 := fun q => hw (by subst q; decide)
      refine herr ?_ ?_
      · simp [f_X7_land, b_X7_land_11, pl7, win7, hp, hw, hw0, x7_e1]
      · simp [f_X8_land, pl8, win8, hp, hw, x8_e1]
  · refine herr ?_ ?_
    · simp [f_X7_land, b_X7_land_11, pl7, hp, x7_e1]
    · simp [f_X8_land, pl8, hp, x8_e1]
