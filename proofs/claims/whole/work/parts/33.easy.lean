theorem I_up2 {mi : bv_Mem} {a s k a2 s2 k2 : Nat} {v v2 : Int32} (b b2 : Nat) (hc : bt_cor a s k b) (ho : bt_ok a s v) (hc2 : bt_cor a2 s2 k2 b2) (ho2 : bt_ok a2 s2 v2) (h : bv_I mi) : bv_I (bv_up (bv_up (bv_up (bv_up mi a s v) a2 s2 v2) 62 k v) 62 k2 v2) := by
  have q1 := hc
  have q2 := hc2
  unfold bt_cor at q1 q2
  exact (J_up (v := v2) b2 hc2 ho2 (J_up (v := v) b hc ho h)).same (((bt_s7.rf _).up (Or.inr (by decide))).up (Or.inr (by decide))) (((((bt_s8.rf mi).up (Or.inr (by omega))).up (Or.inr (by omega))).cong 62 k v).cong 62 k2 v2)
theorem W_vil {mi : bv_Mem} (h : bv_I mi) : ∃ v, v ≤ 5 ∧ mi 1 2 = nI v := h.1.1.1.1
theorem W_fil {mi : bv_Mem} (h : bv_I mi) : ∃ v, v ≤ 8 ∧ mi 1 4 = nI v := h.1.1.1.2.1
theorem W_day {mi : bv_Mem} (h : bv_I mi) : ∃ v, v ≤ 9999 ∧ mi 1 5 = nI v := h.1.1.1.2.2.1
theorem W_tap {mi : bv_Mem} (h : bv_I mi) : ∃ v, v ≤ 50 ∧ mi 7 1 = nI v := h.1.1.1.2.2.2.1
theorem W_wai {mi : bv_Mem} (h : bv_I mi) : ∃ v, v ≤ 20 ∧ mi 1 11 = nI v := h.1.1.1.2.2.2.2
theorem W_home {mi : bv_Mem} (h : bv_I mi) {i : Nat} (hi : i < 5) : ∃ v, v < 20 ∧ mi 5 i = nI v := h.1.1.2.1 i hi
theorem W_h {mi : bv_Mem} (h : bv_I mi) {i : Nat} (hi : i < 20) : ∃ v, v ≤ 20 ∧ mi 3 i = nI v := h.1.1.2.2.1 i hi
theorem W_g {mi : bv_Mem} (h : bv_I mi) {i : Nat} (hi : i < 20) : ∃ v, v ≤ 99 ∧ mi 4 i = nI v := h.1.1.2.2.2.1 i hi
theorem W_b {mi : bv_Mem} (h : bv_I mi) {b : Nat} (hb : b < 8) : (∃ v, v < 7 ∧ mi (14 + b) 0 = nI v) ∧ (∃ v, v < 10 ∧ mi (14 + b) 1 = nI v) ∧ (∃ v, v < 20 ∧ mi (14 + b) 2 = nI v) ∧ (∃ v, v < 1048576 ∧ mi (14 + b) 3 = nI v) ∧ (∃ v, v ≤ 99 ∧ mi (14 + b) 4 = nI v) ∧ (∃ v, v ≤ 1 ∧ mi (14 + b) 5 = nI v) := h.1.1.2.2.2.2.1 b hb
set_option maxHeartbeats 4000000 in
theorem S_village : bv_S_village bv_I := by
  intro p mi hI
  obtain ⟨v, hv, ev⟩ := W_vil hI
  by_cases hp : 0 ≤ p ∧ p ≤ 19
  · obtain ⟨n, hn, rfl⟩ := n_of hp (n := 19) rfl
    by_cases h5 : v < 5
    · have e0 : nI v < 5 := nI_lt (b := 5) h5 (by omega)
      have e1 : bv_in (nI v) 5 = true := nb_in h5 (by omega)
      have e2 : (nI v).toNatClampNeg = v := nI_clamp (by omega)
      have e3 : ¬ nI v = 5 := fun q => absurd ((nI_eq (a := v) (b := 5) (by omega) (by omega)).mp q) (by omega)
      have e4 : bv_in (6 + nI v) 371 = true := in_lit (a := 6) (by omega) (by omega)
      have e5 : (6 + nI v).toNatClampNeg = 6 + v := c_lit 6 v (by omega)
      have e6 : nI v + 1 = nI (v + 1) := nI_1 v
      have e7 : nI (v + 1) - 1 = nI v := nI_pred v
      have hI2 := I_up2 0 0 (a := 5) (s := v) (k := 6 + v) (v := nI n) (a2 := 1) (s2 := 2) (k2 := 2) (v2 := nI (v + 1)) (by unfold bt_cor; omega) (ok_home (by omega)) (by unfold bt_cor; omega) (ok_town (fun _ => ⟨v + 1, by omega, rfl⟩) (fun q => absurd q (by decide)) (fun q => absurd q (by decide)) (fun q => absurd q (by decide))) hI
      refine ⟨nI v, bv_up (bv_up mi 5 v (nI n)) 1 2 (nI (v + 1)), _, ?_, ?_, hI2⟩
      · simp [f_X7_village, pl7, hp, ev, e0, e1, e2, bv_up_eq, bv_up_nn, e6, e7]
      · simp [f_X8_village, pl8, hp, ev, RI_v hI, bv_up_nn, bv_up_eq, e3, e4, e5, e6, e7]
        have e8 : ¬ 2 = 6 + v := by omega
        simp [e8, bv_up_nn, RI_v hI, ev, e6, e7]
    · have e : v = 5 := by omega
      subst e
      refine ⟨-1000000004, er7 4 mi, er8 4 (er7 4 mi), ?_, ?_, I_err 4 hI rfl rfl⟩
      · simp [f_X7_village, pl7, hp, ev, show ¬ nI 5 < 5 by decide, x7_e4]
      · simp [f_X8_village, pl8, hp, er7_row, ev, RI_v hI, show nI 5 = 5 from rfl, x8_e4]
  · refine ⟨-1000000001, er7 1 mi, er8 1 (er7 1 mi), ?_, ?_, I_err 1 hI rfl rfl⟩
    · simp [f_X7_village, pl7, hp, x7_e1]
    · simp [f_X8_village, pl8, hp, x8_e1]
set_option maxHeartbeats 4000000 in
theorem S_moves : bv_S_moves bv_I := by
  intro p q mi hI
  obtain ⟨v, hv, ev⟩ := W_vil hI
  have rv := RI_v hI
  by_cases hp : 0 ≤ p ∧ p ≤ nI v - 1
  · obtain ⟨n, hn, rfl⟩ := n_of1 hp (by omega)
    by_cases hq : 0 ≤ q ∧ q ≤ 19
    · obtain ⟨u, hu, rfl⟩ := n_of hq (n := 19) rfl
      have e1 : bv_in (nI n) 5 = true := nb_in (by omega) (by omega)
      have e2 : (nI n).toNatClampNeg = n := nI_clamp (by omega)
      have e4 : bv_in (6 + nI n) 371 = true := in_lit (a := 6) (by omega) (by omega)
      have e5 : (6 + nI n).toNatClampNeg = 6 + n := c_lit 6 n (by omega)
      refine ⟨mi 5 n, bv_up mi 5 n (nI u), _, ?_, ?_, I_up 0 (a := 5) (s := n) (k := 6 + n) (v := nI u) (by unfold bt_cor; omega) (ok_home (by omega)) hI⟩
      · simp [f_X7_moves, vl7, pl7, ev, hp, hq, e1, e2]
      · simp [f_X8_moves, f_X8_becomes, vl8, pl8, bv_up_nn, rv, ev, hp, hq, e4, e5, RI_at hI (show n < 5 by omega)]
    · refine ⟨-1000000001, er7 1 mi, er8 1 (er7 1 mi), ?_, ?_, I_err 1 hI rfl rfl⟩
      · simp [f_X7_moves, vl7, pl7, ev, hp, hq, x7_e1]
      · simp [f_X8_moves, vl8, pl8, er7_row, rv, ev, hp, hq, x8_e1]
  · refine ⟨-1000000001, er7 1 mi, er8 1 (er7 1 mi), ?_, ?_, I_err 1 hI rfl rfl⟩
    · simp [f_X7_moves, vl7, ev, hp, x7_e1]
    · simp [f_X8_moves, vl8, er7_row, rv, ev, hp, x8_e1]
set_option maxHeartbeats 4000000 in
theorem S_at : bv_S_at bv_I := by
  intro p mi hI
  obtain ⟨v, hv, ev⟩ := W_vil hI
  have rv := RI_v hI
  by_cases hp : 0 ≤ p ∧ p ≤ nI v - 1
  · obtain ⟨n, hn, rfl⟩ := n_of1 hp (by omega)
    have e1 : bv_in (nI n) 5 = true := nb_in (by omega) (by omega)
    have e2 : (nI n).toNatClampNeg = n := nI_clamp (by omega)
    have e4 : bv_in (6 + nI n) 371 = true := in_lit (a := 6) (by omega) (by omega)
    have e5 : (6 + nI n).toNatClampNeg = 6 + n := c_lit 6 n (by omega)
    refine ⟨mi 5 n, mi, mi, ?_, ?_, hI⟩
    · simp [f_X7_at, vl7, ev, hp, e1, e2]
    · simp [f_X8_at, vl8, rv, ev, hp, e4, e5, RI_at hI (show n < 5 by omega)]
  · refine ⟨-1000000001, er7 1 mi, er8 1 (er7 1 mi), ?_, ?_, I_err 1 hI rfl rfl⟩
    · simp [f_X7_at, vl7, ev, hp, x7_e1]
    · simp [f_X8_at, vl8, er7_row, rv, ev, hp, x8_e1]
theorem S_seed : bv_S_seed bv_I := by
  intro v mi hI
  refine ⟨mi 1 6, _, _, rfl, ?_, I_up 0 (a := 1) (s := 6) (k := 1) (v := v) (by unfold bt_cor; omega) (ok_town (fun q => absurd q (by decide)) (fun q => absurd q (by decide)) (fun q => absurd q (by decide)) (fun q => absurd q (by decide))) hI⟩
  have e1 : bv_in 1 371 = true := rfl
  have e2 : (1 : Int32).toNatClampNeg = 1 := rfl
  simp [f_X8_seed, f_X8_becomes, e1, e2, bv_up_nn, RI_z hI]
set_option maxHeartbeats 4000000 in
theorem S_tell : bv_S_tell bv_I := by
  intro x mi hI
  obtain ⟨v, hv, ev⟩ := W_wai hI
  have rv := RI_w hI
  by_cases h5 : v < 20
  · have e0 : nI v < 20 := nI_lt (b := 20) h5 (by omega)
    have e1 : bv_in (nI v) 20 = true := nb_in h5 (by omega)
    have e2 : (nI v).toNatClampNeg = v := nI_clamp (by omega)
    have e3 : ¬ nI v = 20 := fun q => absurd ((nI_eq (a := v) (b := 20) (by omega) (by omega)).mp q) (by omega)
    have e4 : bv_in (149 + nI v) 371 = true := in_lit (a := 149) (by omega) (by omega)
    have e5 : (149 + nI v).toNatClampNeg = 149 + v := c_lit 149 v (by omega)
    have e6 : nI v + 1 = nI (v + 1) := nI_1 v
    have e8 : ¬ 5 = 149 + v := by omega
    have hI2 := I_up2 0 0 (a := 13) (s := v) (k := 149 + v) (v := x) (a2 := 1) (s2 := 11) (k2 := 5) (v2 := nI (v + 1)) (by unfold bt_cor; omega) ok_wait (by unfold bt_cor; omega) (ok_town (fun q => absurd q (by decide)) (fun q => absurd q (by decide)) (fun q => absurd q (by decide)) (fun _ => ⟨v + 1, by omega, rfl⟩)) hI
    refine ⟨nI (v + 1), bv_up (bv_up mi 13 v x) 1 11 (nI (v + 1)), _, ?_, ?_, hI2⟩
    · simp [f_X7_tell, ev, e0, e1, e2, bv_up_eq, bv_up_nn, e6]
    · simp [f_X8_tell, ev, rv, bv_up_nn, bv_up_eq, e3, e4, e5, e6, e8]
  · have e : v = 20 := by omega
    subst e
    refine ⟨-1000000004, er7 4 mi, er8 4 (er7 4 mi), ?_, ?_, I_err 4 hI rfl rfl⟩
    · simp [f_X7_tell, ev, show ¬ nI 20 < 20 by decide, x7_e4]
    · simp [f_X8_tell, er7_row, ev, rv, show nI 20 = 20 from rfl, x8_e4]
set_option maxHeartbeats 4000000 in
theorem S_told : bv_S_told bv_I := by
  intro p mi hI
  by_cases hp : 1 ≤ p ∧ p ≤ 5
  · have h0 : (0 : Int32) ≤ p := by
      rw [i_le] at hp ⊢
      have h3 : (1 : Int32).toInt = 1 := rfl
      have h4 : (0 : Int32).toInt = 0 := rfl
      omega
    obtain ⟨n, hn, rfl⟩ := n_of ⟨h0, hp.2⟩ (n := 5) rfl
    have e1 : bv_in (nI n) 6 = true := nb_in (by omega) (by omega)
    have e2 : (nI n).toNatClampNeg = n := nI_clamp (by omega)
    refine ⟨mi 50 n, mi, mi, ?_, ?_, hI⟩
    · simp [f_X7_told, win7, hp, e1, e2]
    · simp [f_X8_told, win8, hp, e1, e2, hI.2.2.1 n (by omega)]
  · refine ⟨-1000000001, er7 1 mi, er8 1 (er7 1 mi), ?_, ?_, I_err 1 hI rfl rfl⟩
    · simp [f_X7_told, win7, hp, x7_e1]
    · simp [f_X8_told, win8, hp, x8_e1]
set_option maxHeartbeats 4000000 in
theorem S_trace : bv_S_trace bv_I := by
  intro p mi hI
  obtain ⟨rv, ⟨v, hv, ev⟩, hr⟩ := hI.2.2.2.2
  by_cases hp : 0 ≤ p ∧ p ≤ nI v - 1
  · obtain ⟨n, hn, rfl⟩ := n_of1 hp (by omega)
    have e1 : bv_in (nI n) 40 = true := nb_in (by omega) (by omega)
    have e2 : (nI n).toNatClampNeg = n := nI_clamp (by omega)
    refine ⟨mi 48 n, mi, mi, ?_, ?_, hI⟩
    · simp [f_X7_trace, win7, ev, hp, e1, e2]
    · simp [f_X8_trace, win8, rv, ev, hp, e1, e2, hr n (by omega)]
  · refine ⟨-1000000002, er7 2 mi, er8 2 (er7 2 mi), ?_, ?_, I_err 2 hI rfl rfl⟩
    · simp [f_X7_trace, win7, ev, hp, x7_e2]
    · simp [f_X8_trace, win8, er7_row, rv, ev, hp, x8_e2]
