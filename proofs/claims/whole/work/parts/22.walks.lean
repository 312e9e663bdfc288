set_option maxRecDepth 100000 in
set_option maxHeartbeats 4000000 in
theorem we_X7_told   (l1 : Int32) (mi : bv_Mem) (z : Int32 × bv_Mem) (h : f_X7_told  l1 mi = some z) : bv_Ev MX7_told bv_X0 1 74 74 (bv_QI z) 0 [some (.ref 0), some (.int l1)] [] 74 (bv_mr mi) mi := by
  unfold f_X7_told at h
  refine ev_iload_n dX7_told_0 rfl ?_
  refine ev_iconst (1 : Int32) dX7_told_1 (by decide) ?_
  refine ev_iconst (5 : Int32) dX7_told_2 (by decide) ?_
  obtain ⟨z1, hz1, h⟩ := bv_bd h
  refine er_SP [.int _, .int _, .int _] (fun _ _ q => q) lk_X7_58 dX7_told_3 rfl rfl rfl rfl (wm_X7_isWithin _ _ _ _ _ hz1) ?_
  refine ev_if_ne 15 dX7_told_6 (by decide) (fun c1 => ?_) (fun c1 => ?_)
  · replace h := bv_ff c1 h
    refine ev_aload_n dX7_told_15 rfl ?_
    refine ev_getR 50 lf_X7_43 dX7_told_16 rfl rfl rfl ?_
    refine ev_iload_n dX7_told_19 rfl ?_
    obtain ⟨g1, h⟩ := bv_gd h
    refine ev_iald (N := 6) dX7_told_20 rfl g1 ?_
    obtain rfl := Option.some.inj h
    exact ev_iret rfl dX7_told_21 ⟨rfl, rfl, rfl⟩
  · replace h := bv_tt c1 h
    refine ev_aload_n dX7_told_9 rfl ?_
    refine ev_iconst (1 : Int32) dX7_told_10 (by decide) ?_
    obtain ⟨z2, hz2, h⟩ := bv_bd h
    refine er_VI [.int _] (fun _ _ q => q) lk_X7_62 dX7_told_11 rfl rfl rfl rfl rfl (wm_X7_error _ _ _ hz2) ?_
    obtain rfl := Option.some.inj h
    exact ev_iret rfl dX7_told_14 ⟨rfl, rfl, rfl⟩
theorem wm_X7_told   (l1 : Int32) (mi : bv_Mem) (z : Int32 × bv_Mem) (h : f_X7_told  l1 mi = some z) : bv_Met yX7_told MX7_told bv_X0 1 74 74 [.ref 0, .int l1] (bv_mr mi) mi (bv_QI z) :=
  bv_Met.of (pn_X 7 (by decide)) rfl (fun q => absurd q Bool.false_ne_true) (Nat.le_of_ble_eq_true rfl) (we_X7_told   l1 mi z h)
set_option maxRecDepth 100000 in
set_option maxHeartbeats 4000000 in
theorem we_X8_in   (l0 : Int32) (l1 : Int32) (l2 : Int32) (mi : bv_Mem) (z : Int32) (h : f_X8_in  l0 l1 l2 mi = some z) : bv_Ev MX8_in bv_X0 0 74 74 (bv_QP z mi) 0 [some (.int l0), some (.int l1), some (.int l2)] [] 74 (bv_mr mi) mi := by
  unfold f_X8_in at h
  refine ev_iload_n dX8_in_0 rfl ?_
  refine ev_iload_n dX8_in_1 rfl ?_
  refine ev_icmp_lt 14 dX8_in_2 (by decide) (fun c1 => ?_) (fun c1 => ?_)
  · replace h := bv_tt c1 h
    refine ev_iconst (0 : Int32) dX8_in_14 (by decide) ?_
    obtain rfl := Option.some.inj h
    exact ev_zret rfl (Or.inl rfl) dX8_in_15 ⟨rfl, rfl, rfl⟩
  · replace h := bv_ff c1 h
    refine ev_iload_n dX8_in_5 rfl ?_
    refine ev_iload_n dX8_in_6 rfl ?_
    refine ev_icmp_gt 14 dX8_in_7 (by decide) (fun c2 => ?_) (fun c2 => ?_)
    · replace h := bv_tt c2 h
      refine ev_iconst (0 : Int32) dX8_in_14 (by decide) ?_
      obtain rfl := Option.some.inj h
      exact ev_zret rfl (Or.inl rfl) dX8_in_15 ⟨rfl, rfl, rfl⟩
    · replace h := bv_ff c2 h
      refine ev_iconst (1 : Int32) dX8_in_10 (by decide) ?_
      refine ev_goto 15 dX8_in_11 (by decide) ?_
      obtain rfl := Option.some.inj h
      exact ev_zret rfl (Or.inr rfl) dX8_in_15 ⟨rfl, rfl, rfl⟩
theorem wm_X8_in   (l0 : Int32) (l1 : Int32) (l2 : Int32) (mi : bv_Mem) (z : Int32) (h : f_X8_in  l0 l1 l2 mi = some z) : bv_Met yX8_in MX8_in bv_X0 0 74 74 [.int l0, .int l1, .int l2] (bv_mr mi) mi (bv_QP z mi) :=
  bv_Met.of (pn_X 8 (by decide)) rfl (fun q => absurd q Bool.false_ne_true) (Nat.le_of_ble_eq_true rfl) (we_X8_in   l0 l1 l2 mi z h)
set_option maxRecDepth 100000 in
set_option maxHeartbeats 4000000 in
theorem we_X8_becomes   (l1 : Int32) (l2 : Int32) (mi : bv_Mem) (z : Int32 × bv_Mem) (h : f_X8_becomes  l1 l2 mi = some z) : bv_Ev MX8_becomes bv_X0 0 74 74 (bv_QI z) 0 [some (.ref 61), some (.int l1), some (.int l2), none] [] 74 (bv_mr mi) mi := by
  unfold f_X8_becomes at h
  refine ev_aload_n dX8_becomes_0 rfl ?_
  refine ev_getR 62 lf_X8_9 dX8_becomes_1 rfl rfl rfl ?_
  refine ev_iload_n dX8_becomes_4 rfl ?_
  obtain ⟨g1, h⟩ := bv_gd h
  refine ev_iald (N := 371) dX8_becomes_5 rfl g1 ?_
  refine ev_istore_n dX8_becomes_6 rfl rfl ?_
  refine ev_aload_n dX8_becomes_7 rfl ?_
  refine ev_getR 62 lf_X8_9 dX8_becomes_8 rfl rfl rfl ?_
  refine ev_iload_n dX8_becomes_11 rfl ?_
  refine ev_iload_n dX8_becomes_12 rfl ?_
  refine er_iast (N := 371) dX8_becomes_13 rfl g1 ?_
  refine ev_iload_n dX8_becomes_14 rfl ?_
  obtain rfl := Option.some.inj h
  exact ev_iret rfl dX8_becomes_15 ⟨rfl, rfl, rfl⟩
theorem wm_X8_becomes   (l1 : Int32) (l2 : Int32) (mi : bv_Mem) (z : Int32 × bv_Mem) (h : f_X8_becomes  l1 l2 mi = some z) : bv_Met yX8_becomes MX8_becomes bv_X0 0 74 74 [.ref 61, .int l1, .int l2] (bv_mr mi) mi (bv_QI z) :=
  bv_Met.of (pn_X 8 (by decide)) rfl (fun q => absurd q Bool.false_ne_true) (Nat.le_of_ble_eq_true rfl) (we_X8_becomes   l1 l2 mi z h)
set_option maxRecDepth 100000 in
set_option maxHeartbeats 4000000 in
theorem we_X8_error   (l1 : Int32) (mi : bv_Mem) (z : Int32 × bv_Mem) (h : f_X8_error  l1 mi = some z) : bv_Ev MX8_error bv_X0 0 74 74 (bv_QI z) 0 [some (.ref 61), some (.int l1)] [] 74 (bv_mr mi) mi := by
  unfold f_X8_error at h
  refine ev_aload_n dX8_error_0 rfl ?_
  refine ev_getR 65 lf_X8_19 dX8_error_1 rfl rfl rfl ?_
  refine ev_ldc (-1000000000 : Int32) dX8_error_4 lc_X8_46 ?_
  refine ev_iload_n dX8_error_6 rfl ?_
  refine ev_isub dX8_error_7 ?_
  refine ev_dup2 dX8_error_8 rfl rfl ?_
  obtain ⟨g1, h⟩ := bv_gd h
  refine ev_iald (N := 6) dX8_error_9 rfl g1 ?_
  refine ev_iconst (1 : Int32) dX8_error_10 (by decide) ?_
  refine ev_iadd dX8_error_11 ?_
  refine er_iast (N := 6) dX8_error_12 rfl g1 ?_
  refine ev_iload_n dX8_error_13 rfl ?_
  obtain rfl := Option.some.inj h
  exact ev_iret rfl dX8_error_14 ⟨rfl, rfl, rfl⟩
theorem wm_X8_error   (l1 : Int32) (mi : bv_Mem) (z : Int32 × bv_Mem) (h : f_X8_error  l1 mi = some z) : bv_Met yX8_error MX8_error bv_X0 0 74 74 [.ref 61, .int l1] (bv_mr mi) mi (bv_QI z) :=
  bv_Met.of (pn_X 8 (by decide)) rfl (fun q => absurd q Bool.false_ne_true) (Nat.le_of_ble_eq_true rfl) (we_X8_error   l1 mi z h)
set_option maxRecDepth 100000 in
set_option maxHeartbeats 4000000 in
theorem we_X8_isPlace   (l0 : Int32) (mi : bv_Mem) (z : Int32) (h : f_X8_isPlace  l0 mi = some z) : bv_Ev MX8_isPlace bv_X0 1 74 74 (bv_QP z mi) 0 [some (.int l0)] [] 74 (bv_mr mi) mi := by
  unfold f_X8_isPlace at h
  refine ev_iload_n dX8_isPlace_0 rfl ?_
  refine ev_iconst (0 : Int32) dX8_isPlace_1 (by decide) ?_
  refine ev_bipush (19 : Int32) dX8_isPlace_2 (by decide) ?_
  obtain ⟨z1, hz1, h⟩ := bv_bd h
  refine er_SP [.int _, .int _, .int _] (fun _ _ q => q) lk_X8_47 dX8_isPlace_4 rfl rfl rfl rfl (wm_X8_in _ _ _ _ _ hz1) ?_
  obtain ⟨g1, h⟩ := bv_gd h
  obtain rfl := Option.some.inj h
  exact ev_zret rfl g1 dX8_isPlace_7 ⟨rfl, rfl, rfl⟩
theorem wm_X8_isPlace   (l0 : Int32) (mi : bv_Mem) (z : Int32) (h : f_X8_isPlace  l0 mi = some z) : bv_Met yX8_isPlace MX8_isPlace bv_X0 1 74 74 [.int l0] (bv_mr mi) mi (bv_QP z mi) :=
  bv_Met.of (pn_X 8 (by decide)) rfl (fun q => absurd q Bool.false_ne_true) (Nat.le_of_ble_eq_true rfl) (we_X8_isPlace   l0 mi z h)
set_option maxRecDepth 100000 in
set_option maxHeartbeats 4000000 in
theorem wb_X8_land_29  (l1 : Int32) (l2 : Int32) (l3 : Int32) (s0 : Int32) (s1 : Int32) (s2 : Int32) (mi : bv_Mem) (z : Int32 × bv_Mem) (h : b_X8_land_29 l1 l2 l3 s0 s1 s2 mi = some z) : bv_Ev MX8_land bv_X0 2 74 74 (bv_QI z) 29 [some (.ref 61), some (.int l1), some (.int l2), some (.int l3)] [.int s2, .int s1, .int s0] 74 (bv_mr mi) mi := by
  unfold b_X8_land_29 at h
  obtain ⟨z1, hz1, h⟩ := bv_bd h
  refine er_SP [.int _, .int _, .int _] (fun _ _ q => q) lk_X8_47 dX8_land_29 rfl rfl rfl rfl (wm_X8_in _ _ _ _ _ hz1) ?_
  refine ev_if_ne 42 dX8_land_32 (by decide) (fun c1 => ?_) (fun c1 => ?_)
  · replace h := bv_ff c1 h
    refine ev_aload_n dX8_land_42 rfl ?_
    refine ev_iload_n dX8_land_43 rfl ?_
    refine ev_if_ne 52 dX8_land_44 (by decide) (fun c2 => ?_) (fun c2 => ?_)
    · replace h := bv_ff c2 h
      refine ev_bipush (31 : Int32) dX8_land_52 (by decide) ?_
      refine ev_iload_n dX8_land_54 rfl ?_
      refine ev_iadd dX8_land_55 ?_
      refine ev_iload_n dX8_land_56 rfl ?_
      obtain ⟨z2, hz2, h⟩ := bv_bd h
      refine er_VI [.int _, .int _] (fun _ _ q => q) lk_X8_76 dX8_land_57 rfl rfl rfl rfl rfl (wm_X8_becomes _ _ _ _ hz2) ?_
      obtain rfl := Option.some.inj h
      exact ev_iret rfl dX8_land_60 ⟨rfl, rfl, rfl⟩
    · replace h := bv_tt c2 h
      refine ev_bipush (11 : Int32) dX8_land_47 (by decide) ?_
      refine ev_goto 54 dX8_land_49 (by decide) ?_
      refine ev_iload_n dX8_land_54 rfl ?_
      refine ev_iadd dX8_land_55 ?_
      refine ev_iload_n dX8_land_56 rfl ?_
      obtain ⟨z3, hz3, h⟩ := bv_bd h
      refine er_VI [.int _, .int _] (fun _ _ q => q) lk_X8_76 dX8_land_57 rfl rfl rfl rfl rfl (wm_X8_becomes _ _ _ _ hz3) ?_
      obtain rfl := Option.some.inj h
      exact ev_iret rfl dX8_land_60 ⟨rfl, rfl, rfl⟩
  · replace h := bv_tt c1 h
    refine ev_aload_n dX8_land_35 rfl ?_
    refine ev_ldc (-1000000001 : Int32) dX8_land_36 lc_X8_72 ?_
    obtain ⟨z4, hz4, h⟩ := bv_bd h
    refine er_VI [.int _] (fun _ _ q => q) lk_X8_73 dX8_land_38 rfl rfl rfl rfl rfl (wm_X8_error _ _ _ hz4) ?_
    obtain rfl := Option.some.inj h
    exact ev_iret rfl dX8_land_41 ⟨rfl, rfl, rfl⟩
set_option maxRecDepth 100000 in
set_option maxHeartbeats 4000000 in
theorem we_X8_land   (l1 : Int32) (l2 : Int32) (l3 : Int32) (mi : bv_Mem) (z : Int32 × bv_Mem) (h : f_X8_land  l1 l2 l3 mi = some z) : bv_Ev MX8_land bv_X0 2 74 74 (bv_QI z) 0 [some (.ref 61), some (.int l1), some (.int l2), some (.int l3)] [] 74 (bv_mr mi) mi := by
  unfold f_X8_land at h
  refine ev_iload_n dX8_land_0 rfl ?_
  obtain ⟨z1, hz1, h⟩ := bv_bd h
  refine er_SP [.int _] (fun _ _ q => q) lk_X8_69 dX8_land_1 rfl rfl rfl rfl (wm_X8_isPlace _ _ _ hz1) ?_
  refine ev_if_eq 35 dX8_land_4 (by decide) (fun c1 => ?_) (fun c1 => ?_)
  · replace h := bv_tt c1 h
    refine ev_aload_n dX8_land_35 rfl ?_
    refine ev_ldc (-1000000001 : Int32) dX8_land_36 lc_X8_72 ?_
    obtain ⟨z2, hz2, h⟩ := bv_bd h
    refine er_VI [.int _] (fun _ _ q => q) lk_X8_73 dX8_land_38 rfl rfl rfl rfl rfl (wm_X8_error _ _ _ hz2) ?_
    obtain rfl := Option.some.inj h
    exact ev_iret rfl dX8_land_41 ⟨rfl, rfl, rfl⟩
  · replace h := bv_ff c1 h
    refine ev_iload_n dX8_land_7 rfl ?_
    refine ev_iconst (0 : Int32) dX8_land_8 (by decide) ?_
    refine ev_iconst (1 : Int32) dX8_land_9 (by decide) ?_
    obtain ⟨z3, hz3, h⟩ := bv_bd h
    refine er_SP [.int _, .int _, .int _] (fun _ _ q => q) lk_X8_47 dX8_land_10 rfl rfl rfl rfl (wm_X8_in _ _ _ _ _ hz3) ?_
    refine ev_if_eq 35 dX8_land_13 (by decide) (fun c2 => ?_) (fun c2 => ?_)
    · replace h := bv_tt c2 h
      refine ev_aload_n dX8_land_35 rfl ?_
      refine ev_ldc (-1000000001 : Int32) dX8_land_36 lc_X8_72 ?_
      obtain ⟨z4, hz4, h⟩ := bv_bd h
      refine er_VI [.int _] (fun _ _ q => q) lk_X8_73 dX8_land_38 rfl rfl rfl rfl rfl (wm_X8_error _ _ _ hz4) ?_
      obtain rfl := Option.some.inj h
      exact ev_iret rfl dX8_land_41 ⟨rfl, rfl, rfl⟩
    · replace h := bv_ff c2 h
      refine ev_iload_n dX8_land_16 rfl ?_
      refine ev_iconst (0 : Int32) dX8_land_17 (by decide) ?_
      refine ev_iload_n dX8_land_18 rfl ?_
      refine ev_if_ne 27 dX8_land_19 (by decide) (fun c3 => ?_) (fun c3 => ?_)
      · replace h := bv_ff c3 h
        refine ev_bipush (99 : Int32) dX8_land_27 (by decide) ?_
        exact ev_weak (by exact And.intro rfl (And.intro rfl (And.intro rfl (And.intro rfl (trivial))))) (wb_X8_land_29  _ _ _ _ _ _ _ _ h)
      · replace h := bv_tt c3 h
        refine ev_bipush (20 : Int32) dX8_land_22 (by decide) ?_
        refine ev_goto 29 dX8_land_24 (by decide) ?_
        exact ev_weak (by exact And.intro rfl (And.intro rfl (And.intro rfl (And.intro rfl (trivial))))) (wb_X8_land_29  _ _ _ _ _ _ _ _ h)
theorem wm_X8_land   (l1 : Int32) (l2 : Int32) (l3 : Int32) (mi : bv_Mem) (z : Int32 × bv_Mem) (h : f_X8_land  l1 l2 l3 mi = some z) : bv_Met yX8_land MX8_land bv_X0 2 74 74 [.ref 61, .int l1, .int l2, .int l3] (bv_mr mi) mi (bv_QI z) :=
  bv_Met.of (pn_X 8 (by decide)) rfl (fun q => absurd q Bool.false_ne_true) (Nat.le_of_ble_eq_true rfl) (we_X8_land   l1 l2 l3 mi z h)
set_option maxRecDepth 100000 in
set_option maxHeartbeats 4000000 in
theorem we_X8_isThere   (l1 : Int32) (mi : bv_Mem) (z : Int32) (h : f_X8_isThere  l1 mi = some z) : bv_Ev MX8_isThere bv_X0 0 74 74 (bv_QP z mi) 0 [some (.ref 61), some (.int l1)] [] 74 (bv_mr mi) mi := by
  unfold f_X8_isThere at h
  refine ev_aload_n dX8_isThere_0 rfl ?_
  refine ev_getR 62 lf_X8_9 dX8_isThere_1 rfl rfl rfl ?_
  refine ev_bipush (31 : Int32) dX8_isThere_4 (by decide) ?_
  refine ev_iload_n dX8_isThere_6 rfl ?_
  refine ev_iadd dX8_isThere_7 ?_
  obtain ⟨g1, h⟩ := bv_gd h
  refine ev_iald (N := 371) dX8_isThere_8 rfl g1 ?_
  refine ev_if_ne 16 dX8_isThere_9 (by decide) (fun c1 => ?_) (fun c1 => ?_)
  · replace h := bv_ff c1 h
    refine ev_iconst (0 : Int32) dX8_isThere_16 (by decide) ?_
    obtain rfl := Option.some.inj h
    exact ev_zret rfl (Or.inl rfl) dX8_isThere_17 ⟨rfl, rfl, rfl⟩
  · replace h := bv_tt c1 h
    refine ev_iconst (1 : Int32) dX8_isThere_12 (by decide) ?_
    refine ev_goto 17 dX8_isThere_13 (by decide) ?_
    obtain rfl := Option.some.inj h
    exact ev_zret rfl (Or.inr rfl) dX8_isThere_17 ⟨rfl, rfl, rfl⟩
theorem wm_X8_isThere   (l1 : Int32) (mi : bv_Mem) (z : Int32) (h : f_X8_isThere  l1 mi = some z) : bv_Met yX8_isThere MX8_isThere bv_X0 0 74 74 [.ref 61, .int l1] (bv_mr mi) mi (bv_QP z mi) :=
  bv_Met.of (pn_X 8 (by decide)) rfl (fun q => absurd q Bool.false_ne_true) (Nat.le_of_ble_eq_true rfl) (we_X8_isThere   l1 mi z h)
set_option maxRecDepth 100000 in
set_option maxHeartbeats 4000000 in
theorem we_X8_steps   (l0 : Int32) (l1 : Int32) (mi : bv_Mem) (z : Int32) (h : f_X8_steps  l0 l1 mi = some z) : bv_Ev MX8_steps bv_X0 0 74 74 (bv_QP z mi) 0 [some (.int l0), some (.int l1)] [] 74 (bv_mr mi) mi := by
  unfold f_X8_steps at h
  refine ev_iload_n dX8_steps_0 rfl ?_
  refine ev_iload_n dX8_steps_1 rfl ?_
  refine ev_icmp_ge 11 dX8_steps_2 (by decide) (fun c1 => ?_) (fun c1 => ?_)
  · replace h := bv_tt c1 h
    refine ev_iload_n dX8_steps_11 rfl ?_
    refine ev_iload_n dX8_steps_12 rfl ?_
    refine ev_isub dX8_steps_13 ?_
    obtain rfl := Option.some.inj h
    exact ev_iret rfl dX8_steps_14 ⟨rfl, rfl, rfl⟩
  · replace h := bv_ff c1 h
    refine ev_iload_n dX8_steps_5 rfl ?_
    refine ev_iload_n dX8_steps_6 rfl ?_
    refine ev_isub dX8_steps_7 ?_
    refine ev_goto 14 dX8_steps_8 (by decide) ?_
    obtain rfl := Option.some.inj h
    exact ev_iret rfl dX8_steps_14 ⟨rfl, rfl, rfl⟩
theorem wm_X8_steps   (l0 : Int32) (l1 : Int32) (mi : bv_Mem) (z : Int32) (h : f_X8_steps  l0 l1 mi = some z) : bv_Met yX8_steps MX8_steps bv_X0 0 74 74 [.int l0, .int l1] (bv_mr mi) mi (bv_QP z mi) :=
  bv_Met.of (pn_X 8 (by decide)) rfl (fun q => absurd q Bool.false_ne_true) (Nat.le_of_ble_eq_true rfl) (we_X8_steps   l0 l1 mi z h)
set_option maxRecDepth 100000 in
set_option maxHeartbeats 4000000 in
theorem wb_X8_isSeen_61 (mi : bv_Mem) (k_38 : Int32 → Int32 → Int32 → Int32 → Int32 → Int32 → Option (Int32)) (hk_38 : ∀ (l1 : Int32) (l2 : Int32) (l3 : Int32) (l4 : Int32) (l5 : Int32) (l6 : Int32) (z : Int32), k_38 l1 l2 l3 l4 l5 l6 = some z → bv_Ev MX8_isSeen bv_X0 1 74 74 (bv_QP z mi) 38 [some (.ref 61), some (.int l1), some (.int l2), some (.int l3), some (.int l4), some (.int l5), some (.int l6), none] [] 74 (bv_mr mi) mi) (l1 : Int32) (l2 : Int32) (l3 : Int32) (l4 : Int32) (l5 : Int32) (l6 : Int32) (s0 : Int32) (z : Int32) (h : b_X8_isSeen_61 mi k_38 l1 l2 l3 l4 l5 l6 s0 = some z) : bv_Ev MX8_isSeen bv_X0 1 74 74 (bv_QP z mi) 61 [some (.ref 61), some (.int l1), some (.int l2), some (.int l3), some (.int l4), some (.int l5), some (.int l6), none] [.int s0] 74 (bv_mr mi) mi := by
  unfold b_X8_isSeen_61 at h
  refine ev_istore dX8_isSeen_61 rfl rfl ?_
  refine ev_aload_n dX8_isSeen_63 rfl ?_
  refine ev_iload dX8_isSeen_64 rfl ?_
  obtain ⟨z1, hz1, h⟩ := bv_bd h
  refine er_VP [.int _] (fun _ _ q => q) lk_X8_51 dX8_isSeen_66 rfl rfl rfl rfl rfl (wm_X8_isThere _ _ _ hz1) ?_
  refine ev_if_eq 97 dX8_isSeen_69 (by decide) (fun c1 => ?_) (fun c1 => ?_)
  · replace h := bv_tt c1 h
    refine ev_iinc (l6 + 1) dX8_isSeen_97 rfl rfl rfl rfl ?_
    refine ev_goto 38 dX8_isSeen_100 (by decide) ?_
    exact ev_weak (by exact And.intro rfl (And.intro rfl (And.intro rfl (And.intro rfl (And.intro rfl (And.intro rfl (And.intro rfl (trivial)))))))) (hk_38 _ _ _ _ _ _ _ h)
  · replace h := bv_ff c1 h
    refine ev_aload_n dX8_isSeen_72 rfl ?_
    refine ev_getR 62 lf_X8_9 dX8_isSeen_73 rfl rfl rfl ?_
    refine ev_bipush (11 : Int32) dX8_isSeen_76 (by decide) ?_
    refine ev_iload dX8_isSeen_78 rfl ?_
    refine ev_iadd dX8_isSeen_80 ?_
    obtain ⟨g1, h⟩ := bv_gd h
    refine ev_iald (N := 371) dX8_isSeen_81 rfl g1 ?_
    refine ev_iload_n dX8_isSeen_82 rfl ?_
    refine ev_isub dX8_isSeen_83 ?_
    refine ev_iload dX8_isSeen_84 rfl ?_
    refine ev_imul dX8_isSeen_86 ?_
    refine ev_iload dX8_isSeen_87 rfl ?_
    refine ev_iload dX8_isSeen_89 rfl ?_
    refine ev_imul dX8_isSeen_91 ?_
    refine ev_icmp_lt 97 dX8_isSeen_92 (by decide) (fun c2 => ?_) (fun c2 => ?_)
    · replace h := bv_tt c2 h
      refine ev_iinc (l6 + 1) dX8_isSeen_97 rfl rfl rfl rfl ?_
      refine ev_goto 38 dX8_isSeen_100 (by decide) ?_
      exact ev_weak (by exact And.intro rfl (And.intro rfl (And.intro rfl (And.intro rfl (And.intro rfl (And.intro rfl (And.intro rfl (trivial)))))))) (hk_38 _ _ _ _ _ _ _ h)
    · replace h := bv_ff c2 h
      refine ev_iconst (0 : Int32) dX8_isSeen_95 (by decide) ?_
      obtain rfl := Option.some.inj h
      exact ev_zret rfl (Or.inl rfl) dX8_isSeen_96 ⟨rfl, rfl, rfl⟩
set_option maxRecDepth 100000 in
set_option maxHeartbeats 4000000 in
theorem wb_X8_isSeen_38 (mi : bv_Mem) : ∀ (fu : Nat) (l1 : Int32) (l2 : Int32) (l3 : Int32) (l4 : Int32) (l5 : Int32) (l6 : Int32) (z : Int32), b_X8_isSeen_38 mi fu l1 l2 l3 l4 l5 l6 = some z → bv_Ev MX8_isSeen bv_X0 1 74 74 (bv_QP z mi) 38 [some (.ref 61), some (.int l1), some (.int l2), some (.int l3), some (.int l4), some (.int l5), some (.int l6), none] [] 74 (bv_mr mi) mi := by
  intro fu
  induction fu with
  | zero =>
    intro l1 l2 l3 l4 l5 l6 z h
    rw [b_X8_isSeen_38] at h
    cases h
  | succ fu ih =>
    intro l1 l2 l3 l4 l5 l6 z h
    rw [b_X8_isSeen_38] at h
    refine ev_iload dX8_isSeen_38 rfl ?_
    refine ev_iload dX8_isSeen_40 rfl ?_
    refine ev_icmp_ge 103 dX8_isSeen_42 (by decide) (fun c1 => ?_) (fun c1 => ?_)
    · replace h := bv_tt c1 h
      refine ev_iconst (1 : Int32) dX8_isSeen_103 (by decide) ?_
      obtain rfl := Option.some.inj h
      exact ev_zret rfl (Or.inr rfl) dX8_isSeen_104 ⟨rfl, rfl, rfl⟩
    · replace h := bv_ff c1 h
      refine ev_iload_n dX8_isSeen_45 rfl ?_
      refine ev_iload_n dX8_isSeen_46 rfl ?_
      refine ev_icmp_ge 57 dX8_isSeen_47 (by decide) (fun c2 => ?_) (fun c2 => ?_)
      · replace h := bv_tt c2 h
        refine ev_iload_n dX8_isSeen_57 rfl ?_
        refine ev_iload dX8_isSeen_58 rfl ?_
        refine ev_isub dX8_isSeen_60 ?_
        exact ev_weak (by exact And.intro rfl (And.intro rfl (And.intro rfl (And.intro rfl (And.intro rfl (And.intro rfl (And.intro rfl (trivial)))))))) (wb_X8_isSeen_61 mi (b_X8_isSeen_38 mi fu) ih _ _ _ _ _ _ _ _ h)
      · replace h := bv_ff c2 h
        refine ev_iload_n dX8_isSeen_50 rfl ?_
        refine ev_iload dX8_isSeen_51 rfl ?_
        refine ev_iadd dX8_isSeen_53 ?_
        refine ev_goto 61 dX8_isSeen_54 (by decide) ?_
        exact ev_weak (by exact And.intro rfl (And.intro rfl (And.intro rfl (And.intro rfl (And.intro rfl (And.intro rfl (And.intro rfl (trivial)))))))) (wb_X8_isSeen_61 mi (b_X8_isSeen_38 mi fu) ih _ _ _ _ _ _ _ _ h)
set_option maxRecDepth 100000 in
set_option maxHeartbeats 4000000 in
theorem we_X8_isSeen   (l1 : Int32) (l2 : Int32) (l3 : Int32) (mi : bv_Mem) (z : Int32) (h : f_X8_isSeen  l1 l2 l3 mi = some z) : bv_Ev MX8_isSeen bv_X0 1 74 74 (bv_QP z mi) 0 [some (.ref 61), some (.int l1), some (.int l2), some (.int l3), none, none, none, none] [] 74 (bv_mr mi) mi := by
  unfold f_X8_isSeen at h
  refine ev_iload_n dX8_isSeen_0 rfl ?_
  refine ev_iload_n dX8_isSeen_1 rfl ?_
  refine ev_icmp_eq 13 dX8_isSeen_2 (by decide) (fun c1 => ?_) (fun c1 => ?_)
  · replace h := bv_tt c1 h
    refine ev_iconst (0 : Int32) dX8_isSeen_13 (by decide) ?_
    obtain rfl := Option.some.inj h
    exact ev_zret rfl (Or.inl rfl) dX8_isSeen_14 ⟨rfl, rfl, rfl⟩
  · replace h := bv_ff c1 h
    refine ev_aload_n dX8_isSeen_5 rfl ?_
    refine ev_iload_n dX8_isSeen_6 rfl ?_
    obtain ⟨z1, hz1, h⟩ := bv_bd h
    refine er_VP [.int _] (fun _ _ q => q) lk_X8_51 dX8_isSeen_7 rfl rfl rfl rfl rfl (wm_X8_isThere _ _ _ hz1) ?_
    refine ev_if_ne 15 dX8_isSeen_10 (by decide) (fun c2 => ?_) (fun c2 => ?_)
    · replace h := bv_ff c2 h
      refine ev_aload_n dX8_isSeen_15 rfl ?_
      refine ev_getR 62 lf_X8_9 dX8_isSeen_16 rfl rfl rfl ?_
      refine ev_bipush (11 : Int32) dX8_isSeen_19 (by decide) ?_
      refine ev_iload_n dX8_isSeen_21 rfl ?_
      refine ev_iadd dX8_isSeen_22 ?_
      obtain ⟨g1, h⟩ := bv_gd h
      refine ev_iald (N := 371) dX8_isSeen_23 rfl g1 ?_
      refine ev_iload_n dX8_isSeen_24 rfl ?_
      refine ev_isub dX8_isSeen_25 ?_
      refine ev_istore dX8_isSeen_26 rfl rfl ?_
      refine ev_iload_n dX8_isSeen_28 rfl ?_
      refine ev_iload_n dX8_isSeen_29 rfl ?_
      obtain ⟨z2, hz2, h⟩ := bv_bd h
      refine er_SP [.int _, .int _] (fun _ _ q => q) lk_X8_55 dX8_isSeen_30 rfl rfl rfl rfl (wm_X8_steps _ _ _ _ hz2) ?_
      refine ev_istore dX8_isSeen_33 rfl rfl ?_
      refine ev_iconst (1 : Int32) dX8_isSeen_35 (by decide) ?_
      refine ev_istore dX8_isSeen_36 rfl rfl ?_
      exact ev_weak (by exact And.intro rfl (And.intro rfl (And.intro rfl (And.intro rfl (And.intro rfl (And.intro rfl (And.intro rfl (trivial)))))))) (wb_X8_isSeen_38 mi 400 _ _ _ _ _ _ _ h)
    · replace h := bv_tt c2 h
      refine ev_iconst (0 : Int32) dX8_isSeen_13 (by decide) ?_
      obtain rfl := Option.some.inj h
      exact ev_zret rfl (Or.inl rfl) dX8_isSeen_14 ⟨rfl, rfl, rfl⟩
theorem wm_X8_isSeen   (l1 : Int32) (l2 : Int32) (l3 : Int32) (mi : bv_Mem) (z : Int32) (h : f_X8_isSeen  l1 l2 l3 mi = some z) : bv_Met yX8_isSeen MX8_isSeen bv_X0 1 74 74 [.ref 61, .int l1, .int l2, .int l3] (bv_mr mi) mi (bv_QP z mi) :=
  bv_Met.of (pn_X 8 (by decide)) rfl (fun q => absurd q Bool.false_ne_true) (Nat.le_of_ble_eq_true rfl) (we_X8_isSeen   l1 l2 l3 mi z h)
set_option maxRecDepth 100000 in
set_option maxHeartbeats 4000000 in
theorem wb_X8_viewOf_31 (mi : bv_Mem) : ∀ (fu : Nat) (l1 : Int32) (l3 : Int32) (l5 : Int32) (l6 : Int32) (z : Int32), b_X8_viewOf_31 mi fu l1 l3 l5 l6 = some z → bv_Ev MX8_viewOf bv_X0 2 74 74 (bv_QP z mi) 31 [some (.ref 61), some (.int l1), none, some (.int l3), none, some (.int l5), some (.int l6)] [] 74 (bv_mr mi) mi := by
  intro fu
  induction fu with
  | zero =>
    intro l1 l3 l5 l6 z h
    rw [b_X8_viewOf_31] at h
    cases h
  | succ fu ih =>
    intro l1 l3 l5 l6 z h
    rw [b_X8_viewOf_31] at h
    refine ev_iload dX8_viewOf_31 rfl ?_
    refine ev_iload dX8_viewOf_33 rfl ?_
    refine ev_icmp_ge 74 dX8_viewOf_35 (by decide) (fun c1 => ?_) (fun c1 => ?_)
    · replace h := bv_tt c1 h
      refine ev_iload_n dX8_viewOf_74 rfl ?_
      obtain rfl := Option.some.inj h
      exact ev_iret rfl dX8_viewOf_75 ⟨rfl, rfl, rfl⟩
    · replace h := bv_ff c1 h
      refine ev_iload_n dX8_viewOf_38 rfl ?_
      refine ev_aload_n dX8_viewOf_39 rfl ?_
      refine ev_iload_n dX8_viewOf_40 rfl ?_
      refine ev_aload_n dX8_viewOf_41 rfl ?_
      refine ev_getR 62 lf_X8_9 dX8_viewOf_42 rfl rfl rfl ?_
      refine ev_bipush (11 : Int32) dX8_viewOf_45 (by decide) ?_
      refine ev_iload_n dX8_viewOf_47 rfl ?_
      refine ev_iadd dX8_viewOf_48 ?_
      obtain ⟨g1, h⟩ := bv_gd h
      refine ev_iald (N := 371) dX8_viewOf_49 rfl g1 ?_
      refine ev_iload dX8_viewOf_50 rfl ?_
      obtain ⟨z1, hz1, h⟩ := bv_bd h
      refine er_VP [.int _, .int _, .int _] (fun _ _ q => q) lk_X8_59 dX8_viewOf_52 rfl rfl rfl rfl rfl (wm_X8_isSeen _ _ _ _ _ hz1) ?_
      refine ev_if_eq 65 dX8_viewOf_55 (by decide) (fun c2 => ?_) (fun c2 => ?_)
      · replace h := bv_tt c2 h
        refine ev_iconst (0 : Int32) dX8_viewOf_65 (by decide) ?_
        refine ev_ior dX8_viewOf_66 ?_
        refine ev_istore_n dX8_viewOf_67 rfl rfl ?_
        refine ev_iinc (l6 + 1) dX8_viewOf_68 rfl rfl rfl rfl ?_
        refine ev_goto 31 dX8_viewOf_71 (by decide) ?_
        exact ev_weak (by exact And.intro rfl (And.intro rfl (And.intro rfl (And.intro rfl (And.intro rfl (trivial)))))) (ih _ _ _ _ _ h)
      · replace h := bv_ff c2 h
        refine ev_iconst (1 : Int32) dX8_viewOf_58 (by decide) ?_
        refine ev_iload dX8_viewOf_59 rfl ?_
        refine ev_ishl dX8_viewOf_61 ?_
        refine ev_goto 66 dX8_viewOf_62 (by decide) ?_
        refine ev_ior dX8_viewOf_66 ?_
        refine ev_istore_n dX8_viewOf_67 rfl rfl ?_
        refine ev_iinc (l6 + 1) dX8_viewOf_68 rfl rfl rfl rfl ?_
        refine ev_goto 31 dX8_viewOf_71 (by decide) ?_
        exact ev_weak (by exact And.intro rfl (And.intro rfl (And.intro rfl (And.intro rfl (And.intro rfl (trivial)))))) (ih _ _ _ _ _ h)
set_option maxRecDepth 100000 in
set_option maxHeartbeats 4000000 in
theorem wb_X8_viewOf_13 (mi : bv_Mem) (l1 : Int32) (l2 : Int32) (l3 : Int32) (s0 : Int32) (z : Int32) (h : b_X8_viewOf_13 mi l1 l2 l3 s0 = some z) : bv_Ev MX8_viewOf bv_X0 2 74 74 (bv_QP z mi) 13 [some (.ref 61), some (.int l1), some (.int l2), some (.int l3), none, none, none] [.int s0] 74 (bv_mr mi) mi := by
  unfold b_X8_viewOf_13 at h
  refine ev_istore dX8_viewOf_13 rfl rfl ?_
  refine ev_iload_n dX8_viewOf_15 rfl ?_
  refine ev_if_ne 23 dX8_viewOf_16 (by decide) (fun c1 => ?_) (fun c1 => ?_)
  · replace h := bv_ff c1 h
    refine ev_bipush (20 : Int32) dX8_viewOf_23 (by decide) ?_
    refine ev_istore dX8_viewOf_25 rfl rfl ?_
    refine ev_iload dX8_viewOf_27 rfl ?_
    refine ev_istore dX8_viewOf_29 rfl rfl ?_
    exact ev_weak (by exact And.intro rfl (And.intro rfl (And.intro rfl (And.intro rfl (And.intro rfl (trivial)))))) (wb_X8_viewOf_31 mi 400 _ _ _ _ _ h)
  · replace h := bv_tt c1 h
    refine ev_iload_n dX8_viewOf_19 rfl ?_
    refine ev_goto 25 dX8_viewOf_20 (by decide) ?_
    refine ev_istore dX8_viewOf_25 rfl rfl ?_
    refine ev_iload dX8_viewOf_27 rfl ?_
    refine ev_istore dX8_viewOf_29 rfl rfl ?_
    exact ev_weak (by exact And.intro rfl (And.intro rfl (And.intro rfl (And.intro rfl (And.intro rfl (trivial)))))) (wb_X8_viewOf_31 mi 400 _ _ _ _ _ h)
set_option maxRecDepth 100000 in
set_option maxHeartbeats 4000000 in
theorem we_X8_viewOf   (l1 : Int32) (l2 : Int32) (mi : bv_Mem) (z : Int32) (h : f_X8_viewOf  l1 l2 mi = some z) : bv_Ev MX8_viewOf bv_X0 2 74 74 (bv_QP z mi) 0 [some (.ref 61), some (.int l1), some (.int l2), none, none, none, none] [] 74 (bv_mr mi) mi := by
  unfold f_X8_viewOf at h
  refine ev_iconst (0 : Int32) dX8_viewOf_0 (by decide) ?_
  refine ev_istore_n dX8_viewOf_1 rfl rfl ?_
  refine ev_iload_n dX8_viewOf_2 rfl ?_
  refine ev_if_ne 10 dX8_viewOf_3 (by decide) (fun c1 => ?_) (fun c1 => ?_)
  · replace h := bv_ff c1 h
    refine ev_iload_n dX8_viewOf_10 rfl ?_
    refine ev_iconst (1 : Int32) dX8_viewOf_11 (by decide) ?_
    refine ev_iadd dX8_viewOf_12 ?_
    exact ev_weak (by exact And.intro rfl (And.intro rfl (And.intro rfl (And.intro rfl (trivial))))) (wb_X8_viewOf_13 mi _ _ _ _ _ h)
  · replace h := bv_tt c1 h
    refine ev_iconst (0 : Int32) dX8_viewOf_6 (by decide) ?_
    refine ev_goto 13 dX8_viewOf_7 (by decide) ?_
    exact ev_weak (by exact And.intro rfl (And.intro rfl (And.intro rfl (And.intro rfl (trivial))))) (wb_X8_viewOf_13 mi _ _ _ _ _ h)
theorem wm_X8_viewOf   (l1 : Int32) (l2 : Int32) (mi : bv_Mem) (z : Int32) (h : f_X8_viewOf  l1 l2 mi = some z) : bv_Met yX8_viewOf MX8_viewOf bv_X0 2 74 74 [.ref 61, .int l1, .int l2] (bv_mr mi) mi (bv_QP z mi) :=
  bv_Met.of (pn_X 8 (by decide)) rfl (fun q => absurd q Bool.false_ne_true) (Nat.le_of_ble_eq_true rfl) (we_X8_viewOf   l1 l2 mi z h)
set_option maxRecDepth 100000 in
set_option maxHeartbeats 4000000 in
theorem wb_X8_bits_4 (mi : bv_Mem) : ∀ (fu : Nat) (l1 : Int32) (l2 : Int32) (z : Int32), b_X8_bits_4 mi fu l1 l2 = some z → bv_Ev MX8_bits bv_X0 0 74 74 (bv_QP z mi) 4 [none, some (.int l1), some (.int l2)] [] 74 (bv_mr mi) mi := by
  intro fu
  induction fu with
  | zero =>
    intro l1 l2 z h
    rw [b_X8_bits_4] at h
    cases h
  | succ fu ih =>
    intro l1 l2 z h
    rw [b_X8_bits_4] at h
    refine ev_iload_n dX8_bits_4 rfl ?_
    refine ev_if_eq 20 dX8_bits_5 (by decide) (fun c1 => ?_) (fun c1 => ?_)
    · replace h := bv_tt c1 h
      refine ev_iload_n dX8_bits_20 rfl ?_
      obtain rfl := Option.some.inj h
      exact ev_iret rfl dX8_bits_21 ⟨rfl, rfl, rfl⟩
    · replace h := bv_ff c1 h
      refine ev_iinc (l1 + 1) dX8_bits_8 rfl rfl rfl rfl ?_
      refine ev_iload_n dX8_bits_11 rfl ?_
      refine ev_iload_n dX8_bits_12 rfl ?_
      refine ev_iconst (1 : Int32) dX8_bits_13 (by decide) ?_
      refine ev_isub dX8_bits_14 ?_
      refine ev_iand dX8_bits_15 ?_
      refine ev_istore_n dX8_bits_16 rfl rfl ?_
      refine ev_goto 4 dX8_bits_17 (by decide) ?_
      exact ev_weak (by exact And.intro rfl (And.intro rfl (trivial))) (ih _ _ _ h)
set_option maxRecDepth 100000 in
set_option maxHeartbeats 4000000 in
theorem we_X8_bits   (l0 : Int32) (mi : bv_Mem) (z : Int32) (h : f_X8_bits  l0 mi = some z) : bv_Ev MX8_bits bv_X0 0 74 74 (bv_QP z mi) 0 [some (.int l0), none, none] [] 74 (bv_mr mi) mi := by
  unfold f_X8_bits at h
  refine ev_iconst (0 : Int32) dX8_bits_0 (by decide) ?_
  refine ev_istore_n dX8_bits_1 rfl rfl ?_
  refine ev_iload_n dX8_bits_2 rfl ?_
  refine ev_istore_n dX8_bits_3 rfl rfl ?_
  exact ev_weak (by exact And.intro rfl (And.intro rfl (trivial))) (wb_X8_bits_4 mi 400 _ _ _ h)
theorem wm_X8_bits   (l0 : Int32) (mi : bv_Mem) (z : Int32) (h : f_X8_bits  l0 mi = some z) : bv_Met yX8_bits MX8_bits bv_X0 0 74 74 [.int l0] (bv_mr mi) mi (bv_QP z mi) :=
  bv_Met.of (pn_X 8 (by decide)) rfl (fun q => absurd q Bool.false_ne_true) (Nat.le_of_ble_eq_true rfl) (we_X8_bits   l0 mi z h)
set_option maxRecDepth 100000 in
set_option maxHeartbeats 4000000 in
theorem we_X8_sightsOf   (l1 : Int32) (mi : bv_Mem) (z : Int32) (h : f_X8_sightsOf  l1 mi = some z) : bv_Ev MX8_sightsOf bv_X0 3 74 74 (bv_QP z mi) 0 [some (.ref 61), some (.int l1)] [] 74 (bv_mr mi) mi := by
  unfold f_X8_sightsOf at h
  refine ev_aload_n dX8_sightsOf_0 rfl ?_
  refine ev_iload_n dX8_sightsOf_1 rfl ?_
  refine ev_iconst (0 : Int32) dX8_sightsOf_2 (by decide) ?_
  obtain ⟨z1, hz1, h⟩ := bv_bd h
  refine er_VP [.int _, .int _] (fun _ _ q => q) lk_X8_62 dX8_sightsOf_3 rfl rfl rfl rfl rfl (wm_X8_viewOf _ _ _ _ hz1) ?_
  obtain ⟨z2, hz2, h⟩ := bv_bd h
  refine er_SP [.int _] (fun _ _ q => q) lk_X8_65 dX8_sightsOf_6 rfl rfl rfl rfl (wm_X8_bits _ _ _ hz2) ?_
  refine ev_aload_n dX8_sightsOf_9 rfl ?_
  refine ev_iload_n dX8_sightsOf_10 rfl ?_
  refine ev_iconst (1 : Int32) dX8_sightsOf_11 (by decide) ?_
  obtain ⟨z3, hz3, h⟩ := bv_bd h
  refine er_VP [.int _, .int _] (fun _ _ q => q) lk_X8_62 dX8_sightsOf_12 rfl rfl rfl rfl rfl (wm_X8_viewOf _ _ _ _ hz3) ?_
  obtain ⟨z4, hz4, h⟩ := bv_bd h
  refine er_SP [.int _] (fun _ _ q => q) lk_X8_65 dX8_sightsOf_15 rfl rfl rfl rfl (wm_X8_bits _ _ _ hz4) ?_
  refine ev_iadd dX8_sightsOf_18 ?_
  obtain rfl := Option.some.inj h
  exact ev_iret rfl dX8_sightsOf_19 ⟨rfl, rfl, rfl⟩
theorem wm_X8_sightsOf   (l1 : Int32) (mi : bv_Mem) (z : Int32) (h : f_X8_sightsOf  l1 mi = some z) : bv_Met yX8_sightsOf MX8_sightsOf bv_X0 3 74 74 [.ref 61, .int l1] (bv_mr mi) mi (bv_QP z mi) :=
  bv_Met.of (pn_X 8 (by decide)) rfl (fun q => absurd q Bool.false_ne_true) (Nat.le_of_ble_eq_true rfl) (we_X8_sightsOf   l1 mi z h)
set_option maxRecDepth 100000 in
set_option maxHeartbeats 4000000 in
theorem wb_X8_villagesAt_4 (mi : bv_Mem) : ∀ (fu : Nat) (l1 : Int32) (l2 : Int32) (l3 : Int32) (z : Int32), b_X8_villagesAt_4 mi fu l1 l2 l3 = some z → bv_Ev MX8_villagesAt bv_X0 0 74 74 (bv_QP z mi) 4 [some (.ref 61), some (.int l1), some (.int l2), some (.int l3)] [] 74 (bv_mr mi) mi := by
  intro fu
  induction fu with
  | zero =>
    intro l1 l2 l3 z h
    rw [b_X8_villagesAt_4] at h
    cases h
  | succ fu ih =>
    intro l1 l2 l3 z h
    rw [b_X8_villagesAt_4] at h
    refine ev_iload_n dX8_villagesAt_4 rfl ?_
    refine ev_aload_n dX8_villagesAt_5 rfl ?_
    refine ev_getR 62 lf_X8_9 dX8_villagesAt_6 rfl rfl rfl ?_
    refine ev_iconst (2 : Int32) dX8_villagesAt_9 (by decide) ?_
    refine er_ialdk (N := 371) 2 dX8_villagesAt_10 rfl rfl rfl ?_
    refine ev_icmp_ge 43 dX8_villagesAt_11 (by decide) (fun c1 => ?_) (fun c1 => ?_)
    · replace h := bv_tt c1 h
      refine ev_iload_n dX8_villagesAt_43 rfl ?_
      obtain rfl := Option.some.inj h
      exact ev_iret rfl dX8_villagesAt_44 ⟨rfl, rfl, rfl⟩
    · replace h := bv_ff c1 h
      refine ev_iload_n dX8_villagesAt_14 rfl ?_
      refine ev_aload_n dX8_villagesAt_15 rfl ?_
      refine ev_getR 62 lf_X8_9 dX8_villagesAt_16 rfl rfl rfl ?_
      refine ev_bipush (6 : Int32) dX8_villagesAt_19 (by decide) ?_
      refine ev_iload_n dX8_villagesAt_21 rfl ?_
      refine ev_iadd dX8_villagesAt_22 ?_
      obtain ⟨g1, h⟩ := bv_gd h
      refine ev_iald (N := 371) dX8_villagesAt_23 rfl g1 ?_
      refine ev_iload_n dX8_villagesAt_24 rfl ?_
      refine ev_icmp_ne 34 dX8_villagesAt_25 (by decide) (fun c2 => ?_) (fun c2 => ?_)
      · replace h := bv_ff c2 h
        refine ev_iconst (0 : Int32) dX8_villagesAt_34 (by decide) ?_
        refine ev_ior dX8_villagesAt_35 ?_
        refine ev_istore_n dX8_villagesAt_36 rfl rfl ?_
        refine ev_iinc (l3 + 1) dX8_villagesAt_37 rfl rfl rfl rfl ?_
        refine ev_goto 4 dX8_villagesAt_40 (by decide) ?_
        exact ev_weak (by exact And.intro rfl (And.intro rfl (And.intro rfl (And.intro rfl (trivial))))) (ih _ _ _ _ h)
      · replace h := bv_tt c2 h
        refine ev_iconst (1 : Int32) dX8_villagesAt_28 (by decide) ?_
        refine ev_iload_n dX8_villagesAt_29 rfl ?_
        refine ev_ishl dX8_villagesAt_30 ?_
        refine ev_goto 35 dX8_villagesAt_31 (by decide) ?_
        refine ev_ior dX8_villagesAt_35 ?_
        refine ev_istore_n dX8_villagesAt_36 rfl rfl ?_
        refine ev_iinc (l3 + 1) dX8_villagesAt_37 rfl rfl rfl rfl ?_
        refine ev_goto 4 dX8_villagesAt_40 (by decide) ?_
        exact ev_weak (by exact And.intro rfl (And.intro rfl (And.intro rfl (And.intro rfl (trivial))))) (ih _ _ _ _ h)
set_option maxRecDepth 100000 in
set_option maxHeartbeats 4000000 in
theorem we_X8_villagesAt   (l1 : Int32) (mi : bv_Mem) (z : Int32) (h : f_X8_villagesAt  l1 mi = some z) : bv_Ev MX8_villagesAt bv_X0 0 74 74 (bv_QP z mi) 0 [some (.ref 61), some (.int l1), none, none] [] 74 (bv_mr mi) mi := by
  unfold f_X8_villagesAt at h
  refine ev_iconst (0 : Int32) dX8_villagesAt_0 (by decide) ?_
  refine ev_istore_n dX8_villagesAt_1 rfl rfl ?_
  refine ev_iconst (0 : Int32) dX8_villagesAt_2 (by decide) ?_
  refine ev_istore_n dX8_villagesAt_3 rfl rfl ?_
  exact ev_weak (by exact And.intro rfl (And.intro rfl (And.intro rfl (And.intro rfl (trivial))))) (wb_X8_villagesAt_4 mi 400 _ _ _ _ h)
theorem wm_X8_villagesAt   (l1 : Int32) (mi : bv_Mem) (z : Int32) (h : f_X8_villagesAt  l1 mi = some z) : bv_Met yX8_villagesAt MX8_villagesAt bv_X0 0 74 74 [.ref 61, .int l1] (bv_mr mi) mi (bv_QP z mi) :=
  bv_Met.of (pn_X 8 (by decide)) rfl (fun q => absurd q Bool.false_ne_true) (Nat.le_of_ble_eq_true rfl) (we_X8_villagesAt   l1 mi z h)
set_option maxRecDepth 100000 in
set_option maxHeartbeats 4000000 in
theorem we_X8_ofPlace   (l1 : Int32) (l2 : Int32) (mi : bv_Mem) (z : Int32 × bv_Mem) (h : f_X8_ofPlace  l1 l2 mi = some z) : bv_Ev MX8_ofPlace bv_X0 4 74 74 (bv_QI z) 0 [some (.ref 61), some (.int l1), some (.int l2)] [] 74 (bv_mr mi) mi := by
  unfold f_X8_ofPlace at h
  refine ev_iload_n dX8_ofPlace_0 rfl ?_
  obtain ⟨z1, hz1, h⟩ := bv_bd h
  refine er_SP [.int _] (fun _ _ q => q) lk_X8_69 dX8_ofPlace_1 rfl rfl rfl rfl (wm_X8_isPlace _ _ _ hz1) ?_
  refine ev_if_ne 14 dX8_ofPlace_4 (by decide) (fun c1 => ?_) (fun c1 => ?_)
  · replace h := bv_ff c1 h
    refine ev_iload_n dX8_ofPlace_14 rfl ?_
    by_cases c2 : l2 = (0 : Int32)
    · replace h := bv_tt c2 h
      refine ev_tableIn (37) 52 dX8_ofPlace_15 (by rw [c2]; decide) (by rw [c2]; decide) (by rw [c2]; decide) (by decide) ?_
      refine ev_aload_n dX8_ofPlace_52 rfl ?_
      refine ev_getR 62 lf_X8_9 dX8_ofPlace_53 rfl rfl rfl ?_
      refine ev_bipush (11 : Int32) dX8_ofPlace_56 (by decide) ?_
      refine ev_iload_n dX8_ofPlace_58 rfl ?_
      refine ev_iadd dX8_ofPlace_59 ?_
      obtain ⟨g1, h⟩ := bv_gd h
      refine ev_iald (N := 371) dX8_ofPlace_60 rfl g1 ?_
      obtain rfl := Option.some.inj h
      exact ev_iret rfl dX8_ofPlace_61 ⟨rfl, rfl, rfl⟩
    replace h := bv_ff c2 h
    by_cases c3 : l2 = (1 : Int32)
    · replace h := bv_tt c3 h
      refine ev_tableIn (47) 62 dX8_ofPlace_15 (by rw [c3]; decide) (by rw [c3]; decide) (by rw [c3]; decide) (by decide) ?_
      refine ev_aload_n dX8_ofPlace_62 rfl ?_
      refine ev_getR 62 lf_X8_9 dX8_ofPlace_63 rfl rfl rfl ?_
      refine ev_bipush (31 : Int32) dX8_ofPlace_66 (by decide) ?_
      refine ev_iload_n dX8_ofPlace_68 rfl ?_
      refine ev_iadd dX8_ofPlace_69 ?_
      obtain ⟨g2, h⟩ := bv_gd h
      refine ev_iald (N := 371) dX8_ofPlace_70 rfl g2 ?_
      obtain rfl := Option.some.inj h
      exact ev_iret rfl dX8_ofPlace_71 ⟨rfl, rfl, rfl⟩
    replace h := bv_ff c3 h
    by_cases c4 : l2 = (2 : Int32)
    · replace h := bv_tt c4 h
      refine ev_tableIn (57) 72 dX8_ofPlace_15 (by rw [c4]; decide) (by rw [c4]; decide) (by rw [c4]; decide) (by decide) ?_
      refine ev_aload_n dX8_ofPlace_72 rfl ?_
      refine ev_iload_n dX8_ofPlace_73 rfl ?_
      refine ev_iload_n dX8_ofPlace_74 rfl ?_
      refine ev_iconst (2 : Int32) dX8_ofPlace_75 (by decide) ?_
      refine ev_isub dX8_ofPlace_76 ?_
      obtain ⟨z2, hz2, h⟩ := bv_bd h
      refine er_VP [.int _, .int _] (fun _ _ q => q) lk_X8_62 dX8_ofPlace_77 rfl rfl rfl rfl rfl (wm_X8_viewOf _ _ _ _ hz2) ?_
      obtain rfl := Option.some.inj h
      exact ev_iret rfl dX8_ofPlace_80 ⟨rfl, rfl, rfl⟩
    replace h := bv_ff c4 h
    by_cases c5 : l2 = (3 : Int32)
    · replace h := bv_tt c5 h
      refine ev_tableIn (57) 72 dX8_ofPlace_15 (by rw [c5]; decide) (by rw [c5]; decide) (by rw [c5]; decide) (by decide) ?_
      refine ev_aload_n dX8_ofPlace_72 rfl ?_
      refine ev_iload_n dX8_ofPlace_73 rfl ?_
      refine ev_iload_n dX8_ofPlace_74 rfl ?_
      refine ev_iconst (2 : Int32) dX8_ofPlace_75 (by decide) ?_
      refine ev_isub dX8_ofPlace_76 ?_
      obtain ⟨z3, hz3, h⟩ := bv_bd h
      refine er_VP [.int _, .int _] (fun _ _ q => q) lk_X8_62 dX8_ofPlace_77 rfl rfl rfl rfl rfl (wm_X8_viewOf _ _ _ _ hz3) ?_
      obtain rfl := Option.some.inj h
      exact ev_iret rfl dX8_ofPlace_80 ⟨rfl, rfl, rfl⟩
    replace h := bv_ff c5 h
    by_cases c6 : l2 = (4 : Int32)
    · replace h := bv_tt c6 h
      refine ev_tableIn (66) 81 dX8_ofPlace_15 (by rw [c6]; decide) (by rw [c6]; decide) (by rw [c6]; decide) (by decide) ?_
      refine ev_aload_n dX8_ofPlace_81 rfl ?_
      refine ev_iload_n dX8_ofPlace_82 rfl ?_
      obtain ⟨z4, hz4, h⟩ := bv_bd h
      refine er_VP [.int _] (fun _ _ q => q) lk_X8_79 dX8_ofPlace_83 rfl rfl rfl rfl rfl (wm_X8_sightsOf _ _ _ hz4) ?_
      obtain rfl := Option.some.inj h
      exact ev_iret rfl dX8_ofPlace_86 ⟨rfl, rfl, rfl⟩
    replace h := bv_ff c6 h
    by_cases c7 : l2 = (5 : Int32)
    · replace h := bv_tt c7 h
      refine ev_tableIn (72) 87 dX8_ofPlace_15 (by rw [c7]; decide) (by rw [c7]; decide) (by rw [c7]; decide) (by decide) ?_
      refine ev_aload_n dX8_ofPlace_87 rfl ?_
      refine ev_iload_n dX8_ofPlace_88 rfl ?_
      obtain ⟨z5, hz5, h⟩ := bv_bd h
      refine er_VP [.int _] (fun _ _ q => q) lk_X8_82 dX8_ofPlace_89 rfl rfl rfl rfl rfl (wm_X8_villagesAt _ _ _ hz5) ?_
      obtain rfl := Option.some.inj h
      exact ev_iret rfl dX8_ofPlace_92 ⟨rfl, rfl, rfl⟩
    replace h := bv_ff c7 h
    refine ev_tableOut 93 dX8_ofPlace_15 (bv_sw 6 (by decide) (fun j hj => by match j, hj with | 0, _ => exact c2 | 1, _ => exact c3 | 2, _ => exact c4 | 3, _ => exact c5 | 4, _ => exact c6 | 5, _ => exact c7 | j + 6, hj => exact absurd hj (by omega))) (by decide) ?_
    refine ev_aload_n dX8_ofPlace_93 rfl ?_
    refine ev_ldc (-1000000001 : Int32) dX8_ofPlace_94 lc_X8_72 ?_
    obtain ⟨z6, hz6, h⟩ := bv_bd h
    refine er_VI [.int _] (fun _ _ q => q) lk_X8_73 dX8_ofPlace_96 rfl rfl rfl rfl rfl (wm_X8_error _ _ _ hz6) ?_
    obtain rfl := Option.some.inj h
    exact ev_iret rfl dX8_ofPlace_99 ⟨rfl, rfl, rfl⟩
  · replace h := bv_tt c1 h
    refine ev_aload_n dX8_ofPlace_7 rfl ?_
    refine ev_ldc (-1000000001 : Int32) dX8_ofPlace_8 lc_X8_72 ?_
    obtain ⟨z7, hz7, h⟩ := bv_bd h
    refine er_VI [.int _] (fun _ _ q => q) lk_X8_73 dX8_ofPlace_10 rfl rfl rfl rfl rfl (wm_X8_error _ _ _ hz7) ?_
    obtain rfl := Option.some.inj h
    exact ev_iret rfl dX8_ofPlace_13 ⟨rfl, rfl, rfl⟩
theorem wm_X8_ofPlace   (l1 : Int32) (l2 : Int32) (mi : bv_Mem) (z : Int32 × bv_Mem) (h : f_X8_ofPlace  l1 l2 mi = some z) : bv_Met yX8_ofPlace MX8_ofPlace bv_X0 4 74 74 [.ref 61, .int l1, .int l2] (bv_mr mi) mi (bv_QI z) :=
  bv_Met.of (pn_X 8 (by decide)) rfl (fun q => absurd q Bool.false_ne_true) (Nat.le_of_ble_eq_true rfl) (we_X8_ofPlace   l1 l2 mi z h)
set_option maxRecDepth 100000 in
set_option maxHeartbeats 4000000 in
theorem we_X8_village   (l1 : Int32) (mi : bv_Mem) (z : Int32 × bv_Mem) (h : f_X8_village  l1 mi = some z) : bv_Ev MX8_village bv_X0 2 74 74 (bv_QI z) 0 [some (.ref 61), some (.int l1)] [] 74 (bv_mr mi) mi := by
  unfold f_X8_village at h
  refine ev_iload_n dX8_village_0 rfl ?_
  obtain ⟨z1, hz1, h⟩ := bv_bd h
  refine er_SP [.int _] (fun _ _ q => q) lk_X8_69 dX8_village_1 rfl rfl rfl rfl (wm_X8_isPlace _ _ _ hz1) ?_
  refine ev_if_ne 14 dX8_village_4 (by decide) (fun c1 => ?_) (fun c1 => ?_)
  · replace h := bv_ff c1 h
    refine ev_aload_n dX8_village_14 rfl ?_
    refine ev_getR 62 lf_X8_9 dX8_village_15 rfl rfl rfl ?_
    refine ev_iconst (2 : Int32) dX8_village_18 (by decide) ?_
    refine er_ialdk (N := 371) 2 dX8_village_19 rfl rfl rfl ?_
    refine ev_iconst (5 : Int32) dX8_village_20 (by decide) ?_
    refine ev_icmp_ne 31 dX8_village_21 (by decide) (fun c2 => ?_) (fun c2 => ?_)
    · replace h := bv_ff c2 h
      refine ev_aload_n dX8_village_31 rfl ?_
      refine ev_getR 62 lf_X8_9 dX8_village_32 rfl rfl rfl ?_
      refine ev_bipush (6 : Int32) dX8_village_35 (by decide) ?_
      refine ev_aload_n dX8_village_37 rfl ?_
      refine ev_getR 62 lf_X8_9 dX8_village_38 rfl rfl rfl ?_
      refine ev_iconst (2 : Int32) dX8_village_41 (by decide) ?_
      refine er_ialdk (N := 371) 2 dX8_village_42 rfl rfl rfl ?_
      refine ev_iadd dX8_village_43 ?_
      refine ev_iload_n dX8_village_44 rfl ?_
      obtain ⟨g1, h⟩ := bv_gd h
      refine er_iast (N := 371) dX8_village_45 rfl g1 ?_
      refine ev_aload_n dX8_village_46 rfl ?_
      refine ev_getR 62 lf_X8_9 dX8_village_47 rfl rfl rfl ?_
      refine ev_iconst (2 : Int32) dX8_village_50 (by decide) ?_
      refine ev_dup2 dX8_village_51 rfl rfl ?_
      refine er_ialdk (N := 371) 2 dX8_village_52 rfl rfl rfl ?_
      refine ev_iconst (1 : Int32) dX8_village_53 (by decide) ?_
      refine ev_iadd dX8_village_54 ?_
      refine er_iastk (N := 371) 2 dX8_village_55 rfl rfl rfl ?_
      refine ev_aload_n dX8_village_56 rfl ?_
      refine ev_getR 62 lf_X8_9 dX8_village_57 rfl rfl rfl ?_
      refine ev_iconst (2 : Int32) dX8_village_60 (by decide) ?_
      refine er_ialdk (N := 371) 2 dX8_village_61 rfl rfl rfl ?_
      refine ev_iconst (1 : Int32) dX8_village_62 (by decide) ?_
      refine ev_isub dX8_village_63 ?_
      obtain rfl := Option.some.inj h
      exact ev_iret rfl dX8_village_64 ⟨rfl, rfl, rfl⟩
    · replace h := bv_tt c2 h
      refine ev_aload_n dX8_village_24 rfl ?_
      refine ev_ldc (-1000000004 : Int32) dX8_village_25 lc_X8_85 ?_
      obtain ⟨z2, hz2, h⟩ := bv_bd h
      refine er_VI [.int _] (fun _ _ q => q) lk_X8_73 dX8_village_27 rfl rfl rfl rfl rfl (wm_X8_error _ _ _ hz2) ?_
      obtain rfl := Option.some.inj h
      exact ev_iret rfl dX8_village_30 ⟨rfl, rfl, rfl⟩
  · replace h := bv_tt c1 h
    refine ev_aload_n dX8_village_7 rfl ?_
    refine ev_ldc (-1000000001 : Int32) dX8_village_8 lc_X8_72 ?_
    obtain ⟨z3, hz3, h⟩ := bv_bd h
    refine er_VI [.int _] (fun _ _ q => q) lk_X8_73 dX8_village_10 rfl rfl rfl rfl rfl (wm_X8_error _ _ _ hz3) ?_
    obtain rfl := Option.some.inj h
    exact ev_iret rfl dX8_village_13 ⟨rfl, rfl, rfl⟩
theorem wm_X8_village   (l1 : Int32) (mi : bv_Mem) (z : Int32 × bv_Mem) (h : f_X8_village  l1 mi = some z) : bv_Met yX8_village MX8_village bv_X0 2 74 74 [.ref 61, .int l1] (bv_mr mi) mi (bv_QI z) :=
  bv_Met.of (pn_X 8 (by decide)) rfl (fun q => absurd q Bool.false_ne_true) (Nat.le_of_ble_eq_true rfl) (we_X8_village   l1 mi z h)
set_option maxRecDepth 100000 in
set_option maxHeartbeats 4000000 in
theorem we_X8_isVillage   (l1 : Int32) (mi : bv_Mem) (z : Int32) (h : f_X8_isVillage  l1 mi = some z) : bv_Ev MX8_isVillage bv_X0 1 74 74 (bv_QP z mi) 0 [some (.ref 61), some (.int l1)] [] 74 (bv_mr mi) mi := by
  unfold f_X8_isVillage at h
  refine ev_iload_n dX8_isVillage_0 rfl ?_
  refine ev_iconst (0 : Int32) dX8_isVillage_1 (by decide) ?_
  refine ev_aload_n dX8_isVillage_2 rfl ?_
  refine ev_getR 62 lf_X8_9 dX8_isVillage_3 rfl rfl rfl ?_
  refine ev_iconst (2 : Int32) dX8_isVillage_6 (by decide) ?_
  refine er_ialdk (N := 371) 2 dX8_isVillage_7 rfl rfl rfl ?_
  refine ev_iconst (1 : Int32) dX8_isVillage_8 (by decide) ?_
  refine ev_isub dX8_isVillage_9 ?_
  obtain ⟨z1, hz1, h⟩ := bv_bd h
  refine er_SP [.int _, .int _, .int _] (fun _ _ q => q) lk_X8_47 dX8_isVillage_10 rfl rfl rfl rfl (wm_X8_in _ _ _ _ _ hz1) ?_
  obtain ⟨g1, h⟩ := bv_gd h
  obtain rfl := Option.some.inj h
  exact ev_zret rfl g1 dX8_isVillage_13 ⟨rfl, rfl, rfl⟩
theorem wm_X8_isVillage   (l1 : Int32) (mi : bv_Mem) (z : Int32) (h : f_X8_isVillage  l1 mi = some z) : bv_Met yX8_isVillage MX8_isVillage bv_X0 1 74 74 [.ref 61, .int l1] (bv_mr mi) mi (bv_QP z mi) :=
  bv_Met.of (pn_X 8 (by decide)) rfl (fun q => absurd q Bool.false_ne_true) (Nat.le_of_ble_eq_true rfl) (we_X8_isVillage   l1 mi z h)
set_option maxRecDepth 100000 in
set_option maxHeartbeats 4000000 in
theorem we_X8_moves   (l1 : Int32) (l2 : Int32) (mi : bv_Mem) (z : Int32 × bv_Mem) (h : f_X8_moves  l1 l2 mi = some z) : bv_Ev MX8_moves bv_X0 2 74 74 (bv_QI z) 0 [some (.ref 61), some (.int l1), some (.int l2)] [] 74 (bv_mr mi) mi := by
  unfold f_X8_moves at h
  refine ev_aload_n dX8_moves_0 rfl ?_
  refine ev_iload_n dX8_moves_1 rfl ?_
  obtain ⟨z1, hz1, h⟩ := bv_bd h
  refine er_VP [.int _] (fun _ _ q => q) lk_X8_86 dX8_moves_2 rfl rfl rfl rfl rfl (wm_X8_isVillage _ _ _ hz1) ?_
  refine ev_if_eq 27 dX8_moves_5 (by decide) (fun c1 => ?_) (fun c1 => ?_)
  · replace h := bv_tt c1 h
    refine ev_aload_n dX8_moves_27 rfl ?_
    refine ev_ldc (-1000000001 : Int32) dX8_moves_28 lc_X8_72 ?_
    obtain ⟨z2, hz2, h⟩ := bv_bd h
    refine er_VI [.int _] (fun _ _ q => q) lk_X8_73 dX8_moves_30 rfl rfl rfl rfl rfl (wm_X8_error _ _ _ hz2) ?_
    obtain rfl := Option.some.inj h
    exact ev_iret rfl dX8_moves_33 ⟨rfl, rfl, rfl⟩
  · replace h := bv_ff c1 h
    refine ev_iload_n dX8_moves_8 rfl ?_
    obtain ⟨z3, hz3, h⟩ := bv_bd h
    refine er_SP [.int _] (fun _ _ q => q) lk_X8_69 dX8_moves_9 rfl rfl rfl rfl (wm_X8_isPlace _ _ _ hz3) ?_
    refine ev_if_eq 27 dX8_moves_12 (by decide) (fun c2 => ?_) (fun c2 => ?_)
    · replace h := bv_tt c2 h
      refine ev_aload_n dX8_moves_27 rfl ?_
      refine ev_ldc (-1000000001 : Int32) dX8_moves_28 lc_X8_72 ?_
      obtain ⟨z4, hz4, h⟩ := bv_bd h
      refine er_VI [.int _] (fun _ _ q => q) lk_X8_73 dX8_moves_30 rfl rfl rfl rfl rfl (wm_X8_error _ _ _ hz4) ?_
      obtain rfl := Option.some.inj h
      exact ev_iret rfl dX8_moves_33 ⟨rfl, rfl, rfl⟩
    · replace h := bv_ff c2 h
      refine ev_aload_n dX8_moves_15 rfl ?_
      refine ev_bipush (6 : Int32) dX8_moves_16 (by decide) ?_
      refine ev_iload_n dX8_moves_18 rfl ?_
      refine ev_iadd dX8_moves_19 ?_
      refine ev_iload_n dX8_moves_20 rfl ?_
      obtain ⟨z5, hz5, h⟩ := bv_bd h
      refine er_VI [.int _, .int _] (fun _ _ q => q) lk_X8_76 dX8_moves_21 rfl rfl rfl rfl rfl (wm_X8_becomes _ _ _ _ hz5) ?_
      refine ev_goto 33 dX8_moves_24 (by decide) ?_
      obtain rfl := Option.some.inj h
      exact ev_iret rfl dX8_moves_33 ⟨rfl, rfl, rfl⟩
theorem wm_X8_moves   (l1 : Int32) (l2 : Int32) (mi : bv_Mem) (z : Int32 × bv_Mem) (h : f_X8_moves  l1 l2 mi = some z) : bv_Met yX8_moves MX8_moves bv_X0 2 74 74 [.ref 61, .int l1, .int l2] (bv_mr mi) mi (bv_QI z) :=
  bv_Met.of (pn_X 8 (by decide)) rfl (fun q => absurd q Bool.false_ne_true) (Nat.le_of_ble_eq_true rfl) (we_X8_moves   l1 l2 mi z h)
set_option maxRecDepth 100000 in
set_option maxHeartbeats 4000000 in
theorem we_X8_at   (l1 : Int32) (mi : bv_Mem) (z : Int32 × bv_Mem) (h : f_X8_at  l1 mi = some z) : bv_Ev MX8_at bv_X0 2 74 74 (bv_QI z) 0 [some (.ref 61), some (.int l1)] [] 74 (bv_mr mi) mi := by
  unfold f_X8_at at h
  refine ev_aload_n dX8_at_0 rfl ?_
  refine ev_iload_n dX8_at_1 rfl ?_
  obtain ⟨z1, hz1, h⟩ := bv_bd h
  refine er_VP [.int _] (fun _ _ q => q) lk_X8_86 dX8_at_2 rfl rfl rfl rfl rfl (wm_X8_isVillage _ _ _ hz1) ?_
  refine ev_if_eq 20 dX8_at_5 (by decide) (fun c1 => ?_) (fun c1 => ?_)
  · replace h := bv_tt c1 h
    refine ev_aload_n dX8_at_20 rfl ?_
    refine ev_ldc (-1000000001 : Int32) dX8_at_21 lc_X8_72 ?_
    obtain ⟨z2, hz2, h⟩ := bv_bd h
    refine er_VI [.int _] (fun _ _ q => q) lk_X8_73 dX8_at_23 rfl rfl rfl rfl rfl (wm_X8_error _ _ _ hz2) ?_
    obtain rfl := Option.some.inj h
    exact ev_iret rfl dX8_at_26 ⟨rfl, rfl, rfl⟩
  · replace h := bv_ff c1 h
    refine ev_aload_n dX8_at_8 rfl ?_
    refine ev_getR 62 lf_X8_9 dX8_at_9 rfl rfl rfl ?_
    refine ev_bipush (6 : Int32) dX8_at_12 (by decide) ?_
    refine ev_iload_n dX8_at_14 rfl ?_
    refine ev_iadd dX8_at_15 ?_
    obtain ⟨g1, h⟩ := bv_gd h
    refine ev_iald (N := 371) dX8_at_16 rfl g1 ?_
    refine ev_goto 26 dX8_at_17 (by decide) ?_
    obtain rfl := Option.some.inj h
    exact ev_iret rfl dX8_at_26 ⟨rfl, rfl, rfl⟩
theorem wm_X8_at   (l1 : Int32) (mi : bv_Mem) (z : Int32 × bv_Mem) (h : f_X8_at  l1 mi = some z) : bv_Met yX8_at MX8_at bv_X0 2 74 74 [.ref 61, .int l1] (bv_mr mi) mi (bv_QI z) :=
  bv_Met.of (pn_X 8 (by decide)) rfl (fun q => absurd q Bool.false_ne_true) (Nat.le_of_ble_eq_true rfl) (we_X8_at   l1 mi z h)
set_option maxRecDepth 100000 in
set_option maxHeartbeats 4000000 in
theorem we_X8_held   (l0 : Int32) (l1 : Int32) (l2 : Int32) (mi : bv_Mem) (z : Int32) (h : f_X8_held  l0 l1 l2 mi = some z) : bv_Ev MX8_held bv_X0 0 74 74 (bv_QP z mi) 0 [some (.int l0), some (.int l1), some (.int l2)] [] 74 (bv_mr mi) mi := by
  unfold f_X8_held at h
  refine ev_iload_n dX8_held_0 rfl ?_
  refine ev_iload_n dX8_held_1 rfl ?_
  refine ev_icmp_ge 9 dX8_held_2 (by decide) (fun c1 => ?_) (fun c1 => ?_)
  · replace h := bv_tt c1 h
    refine ev_iload_n dX8_held_9 rfl ?_
    refine ev_iload_n dX8_held_10 rfl ?_
    refine ev_icmp_le 18 dX8_held_11 (by decide) (fun c2 => ?_) (fun c2 => ?_)
    · replace h := bv_tt c2 h
      refine ev_iload_n dX8_held_18 rfl ?_
      obtain rfl := Option.some.inj h
      exact ev_iret rfl dX8_held_19 ⟨rfl, rfl, rfl⟩
    · replace h := bv_ff c2 h
      refine ev_iload_n dX8_held_14 rfl ?_
      refine ev_goto 19 dX8_held_15 (by decide) ?_
      obtain rfl := Option.some.inj h
      exact ev_iret rfl dX8_held_19 ⟨rfl, rfl, rfl⟩
  · replace h := bv_ff c1 h
    refine ev_iload_n dX8_held_5 rfl ?_
    refine ev_goto 19 dX8_held_6 (by decide) ?_
    obtain rfl := Option.some.inj h
    exact ev_iret rfl dX8_held_19 ⟨rfl, rfl, rfl⟩
theorem wm_X8_held   (l0 : Int32) (l1 : Int32) (l2 : Int32) (mi : bv_Mem) (z : Int32) (h : f_X8_held  l0 l1 l2 mi = some z) : bv_Met yX8_held MX8_held bv_X0 0 74 74 [.int l0, .int l1, .int l2] (bv_mr mi) mi (bv_QP z mi) :=
  bv_Met.of (pn_X 8 (by decide)) rfl (fun q => absurd q Bool.false_ne_true) (Nat.le_of_ble_eq_true rfl) (we_X8_held   l0 l1 l2 mi z h)
set_option maxRecDepth 100000 in
set_option maxHeartbeats 4000000 in
theorem we_X8_twoOf   (l0 : Int32) (l1 : Int32) (l2 : Int32) (mi : bv_Mem) (z : Int32) (h : f_X8_twoOf  l0 l1 l2 mi = some z) : bv_Ev MX8_twoOf bv_X0 0 74 74 (bv_QP z mi) 0 [some (.int l0), some (.int l1), some (.int l2)] [] 74 (bv_mr mi) mi := by
  unfold f_X8_twoOf at h
  refine ev_iload_n dX8_twoOf_0 rfl ?_
  by_cases c1 : l0 = (37 : Int32)
  · replace h := bv_tt c1 h
    refine ev_tableIn (143) 144 dX8_twoOf_1 (by rw [c1]; decide) (by rw [c1]; decide) (by rw [c1]; decide) (by decide) ?_
    refine ev_iload_n dX8_twoOf_144 rfl ?_
    refine ev_if_ne 152 dX8_twoOf_145 (by decide) (fun c2 => ?_) (fun c2 => ?_)
    · replace h := bv_ff c2 h
      refine ev_iload_n dX8_twoOf_152 rfl ?_
      refine ev_iload_n dX8_twoOf_153 rfl ?_
      obtain ⟨g1, h⟩ := bv_gd h
      refine ev_irem dX8_twoOf_154 g1 ?_
      obtain rfl := Option.some.inj h
      exact ev_iret rfl dX8_twoOf_155 ⟨rfl, rfl, rfl⟩
    · replace h := bv_tt c2 h
      refine ev_iconst (0 : Int32) dX8_twoOf_148 (by decide) ?_
      refine ev_goto 155 dX8_twoOf_149 (by decide) ?_
      obtain rfl := Option.some.inj h
      exact ev_iret rfl dX8_twoOf_155 ⟨rfl, rfl, rfl⟩
  replace h := bv_ff c1 h
  by_cases c3 : l0 = (38 : Int32)
  · replace h := bv_tt c3 h
    refine ev_tableIn (188) 189 dX8_twoOf_1 (by rw [c3]; decide) (by rw [c3]; decide) (by rw [c3]; decide) (by decide) ?_
    refine ev_iload_n dX8_twoOf_189 rfl ?_
    refine ev_if_eq 201 dX8_twoOf_190 (by decide) (fun c4 => ?_) (fun c4 => ?_)
    · replace h := bv_tt c4 h
      refine ev_iconst (0 : Int32) dX8_twoOf_201 (by decide) ?_
      obtain rfl := Option.some.inj h
      exact ev_iret rfl dX8_twoOf_202 ⟨rfl, rfl, rfl⟩
    · replace h := bv_ff c4 h
      refine ev_iload_n dX8_twoOf_193 rfl ?_
      refine ev_if_eq 201 dX8_twoOf_194 (by decide) (fun c5 => ?_) (fun c5 => ?_)
      · replace h := bv_tt c5 h
        refine ev_iconst (0 : Int32) dX8_twoOf_201 (by decide) ?_
        obtain rfl := Option.some.inj h
        exact ev_iret rfl dX8_twoOf_202 ⟨rfl, rfl, rfl⟩
      · replace h := bv_ff c5 h
        refine ev_iconst (1 : Int32) dX8_twoOf_197 (by decide) ?_
        refine ev_goto 202 dX8_twoOf_198 (by decide) ?_
        obtain rfl := Option.some.inj h
        exact ev_iret rfl dX8_twoOf_202 ⟨rfl, rfl, rfl⟩
  replace h := bv_ff c3 h
  by_cases c6 : l0 = (39 : Int32)
  · replace h := bv_tt c6 h
    refine ev_tableIn (202) 203 dX8_twoOf_1 (by rw [c6]; decide) (by rw [c6]; decide) (by rw [c6]; decide) (by decide) ?_
    refine ev_iload_n dX8_twoOf_203 rfl ?_
    refine ev_if_ne 211 dX8_twoOf_204 (by decide) (fun c7 => ?_) (fun c7 => ?_)
    · replace h := bv_ff c7 h
      refine ev_iconst (1 : Int32) dX8_twoOf_211 (by decide) ?_
      refine ev_goto 216 dX8_twoOf_212 (by decide) ?_
      obtain rfl := Option.some.inj h
      exact ev_iret rfl dX8_twoOf_216 ⟨rfl, rfl, rfl⟩
    · replace h := bv_tt c7 h
      refine ev_iload_n dX8_twoOf_207 rfl ?_
      refine ev_if_eq 215 dX8_twoOf_208 (by decide) (fun c8 => ?_) (fun c8 => ?_)
      · replace h := bv_tt c8 h
        refine ev_iconst (0 : Int32) dX8_twoOf_215 (by decide) ?_
        obtain rfl := Option.some.inj h
        exact ev_iret rfl dX8_twoOf_216 ⟨rfl, rfl, rfl⟩
      · replace h := bv_ff c8 h
        refine ev_iconst (1 : Int32) dX8_twoOf_211 (by decide) ?_
        refine ev_goto 216 dX8_twoOf_212 (by decide) ?_
        obtain rfl := Option.some.inj h
        exact ev_iret rfl dX8_twoOf_216 ⟨rfl, rfl, rfl⟩
  replace h := bv_ff c6 h
  by_cases c9 : l0 = (40 : Int32)
  · replace h := bv_tt c9 h
    refine ev_tableIn (202) 203 dX8_twoOf_1 (by rw [c9]; decide) (by rw [c9]; decide) (by rw [c9]; decide) (by decide) ?_
    refine ev_iload_n dX8_twoOf_203 rfl ?_
    refine ev_if_ne 211 dX8_twoOf_204 (by decide) (fun c10 => ?_) (fun c10 => ?_)
    · replace h := bv_ff c10 h
      refine ev_iconst (1 : Int32) dX8_twoOf_211 (by decide) ?_
      refine ev_goto 216 dX8_twoOf_212 (by decide) ?_
      obtain rfl := Option.some.inj h
      exact ev_iret rfl dX8_twoOf_216 ⟨rfl, rfl, rfl⟩
    · replace h := bv_tt c10 h
      refine ev_iload_n dX8_twoOf_207 rfl ?_
      refine ev_if_eq 215 dX8_twoOf_208 (by decide) (fun c11 => ?_) (fun c11 => ?_)
      · replace h := bv_tt c11 h
        refine ev_iconst (0 : Int32) dX8_twoOf_215 (by decide) ?_
        obtain rfl := Option.some.inj h
        exact ev_iret rfl dX8_twoOf_216 ⟨rfl, rfl, rfl⟩
      · replace h := bv_ff c11 h
        refine ev_iconst (1 : Int32) dX8_twoOf_211 (by decide) ?_
        refine ev_goto 216 dX8_twoOf_212 (by decide) ?_
        obtain rfl := Option.some.inj h
        exact ev_iret rfl dX8_twoOf_216 ⟨rfl, rfl, rfl⟩
  replace h := bv_ff c9 h
  by_cases c12 : l0 = (41 : Int32)
  · replace h := bv_tt c12 h
    refine ev_tableIn (202) 203 dX8_twoOf_1 (by rw [c12]; decide) (by rw [c12]; decide) (by rw [c12]; decide) (by decide) ?_
    refine ev_iload_n dX8_twoOf_203 rfl ?_
    refine ev_if_ne 211 dX8_twoOf_204 (by decide) (fun c13 => ?_) (fun c13 => ?_)
    · replace h := bv_ff c13 h
      refine ev_iconst (1 : Int32) dX8_twoOf_211 (by decide) ?_
      refine ev_goto 216 dX8_twoOf_212 (by decide) ?_
      obtain rfl := Option.some.inj h
      exact ev_iret rfl dX8_twoOf_216 ⟨rfl, rfl, rfl⟩
    · replace h := bv_tt c13 h
      refine ev_iload_n dX8_twoOf_207 rfl ?_
      refine ev_if_eq 215 dX8_twoOf_208 (by decide) (fun c14 => ?_) (fun c14 => ?_)
      · replace h := bv_tt c14 h
        refine ev_iconst (0 : Int32) dX8_twoOf_215 (by decide) ?_
        obtain rfl := Option.some.inj h
        exact ev_iret rfl dX8_twoOf_216 ⟨rfl, rfl, rfl⟩
      · replace h := bv_ff c14 h
        refine ev_iconst (1 : Int32) dX8_twoOf_211 (by decide) ?_
        refine ev_goto 216 dX8_twoOf_212 (by decide) ?_
        obtain rfl := Option.some.inj h
        exact ev_iret rfl dX8_twoOf_216 ⟨rfl, rfl, rfl⟩
  replace h := bv_ff c12 h
  by_cases c15 : l0 = (42 : Int32)
  · replace h := bv_tt c15 h
    refine ev_tableIn (127) 128 dX8_twoOf_1 (by rw [c15]; decide) (by rw [c15]; decide) (by rw [c15]; decide) (by decide) ?_
    refine ev_iload_n dX8_twoOf_128 rfl ?_
    refine ev_iload_n dX8_twoOf_129 rfl ?_
    refine ev_imul dX8_twoOf_130 ?_
    obtain rfl := Option.some.inj h
    exact ev_iret rfl dX8_twoOf_131 ⟨rfl, rfl, rfl⟩
  replace h := bv_ff c15 h
  by_cases c16 : l0 = (43 : Int32)
  · replace h := bv_tt c16 h
    refine ev_tableIn (119) 120 dX8_twoOf_1 (by rw [c16]; decide) (by rw [c16]; decide) (by rw [c16]; decide) (by decide) ?_
    refine ev_iload_n dX8_twoOf_120 rfl ?_
    refine ev_iload_n dX8_twoOf_121 rfl ?_
    refine ev_iadd dX8_twoOf_122 ?_
    obtain rfl := Option.some.inj h
    exact ev_iret rfl dX8_twoOf_123 ⟨rfl, rfl, rfl⟩
  replace h := bv_ff c16 h
  by_cases c17 : l0 = (44 : Int32)
  · replace h := bv_tt c17 h
    refine ev_tableIn (202) 203 dX8_twoOf_1 (by rw [c17]; decide) (by rw [c17]; decide) (by rw [c17]; decide) (by decide) ?_
    refine ev_iload_n dX8_twoOf_203 rfl ?_
    refine ev_if_ne 211 dX8_twoOf_204 (by decide) (fun c18 => ?_) (fun c18 => ?_)
    · replace h := bv_ff c18 h
      refine ev_iconst (1 : Int32) dX8_twoOf_211 (by decide) ?_
      refine ev_goto 216 dX8_twoOf_212 (by decide) ?_
      obtain rfl := Option.some.inj h
      exact ev_iret rfl dX8_twoOf_216 ⟨rfl, rfl, rfl⟩
    · replace h := bv_tt c18 h
      refine ev_iload_n dX8_twoOf_207 rfl ?_
      refine ev_if_eq 215 dX8_twoOf_208 (by decide) (fun c19 => ?_) (fun c19 => ?_)
      · replace h := bv_tt c19 h
        refine ev_iconst (0 : Int32) dX8_twoOf_215 (by decide) ?_
        obtain rfl := Option.some.inj h
        exact ev_iret rfl dX8_twoOf_216 ⟨rfl, rfl, rfl⟩
      · replace h := bv_ff c19 h
        refine ev_iconst (1 : Int32) dX8_twoOf_211 (by decide) ?_
        refine ev_goto 216 dX8_twoOf_212 (by decide) ?_
        obtain rfl := Option.some.inj h
        exact ev_iret rfl dX8_twoOf_216 ⟨rfl, rfl, rfl⟩
  replace h := bv_ff c17 h
  by_cases c20 : l0 = (45 : Int32)
  · replace h := bv_tt c20 h
    refine ev_tableIn (123) 124 dX8_twoOf_1 (by rw [c20]; decide) (by rw [c20]; decide) (by rw [c20]; decide) (by decide) ?_
    refine ev_iload_n dX8_twoOf_124 rfl ?_
    refine ev_iload_n dX8_twoOf_125 rfl ?_
    refine ev_isub dX8_twoOf_126 ?_
    obtain rfl := Option.some.inj h
    exact ev_iret rfl dX8_twoOf_127 ⟨rfl, rfl, rfl⟩
  replace h := bv_ff c20 h
  by_cases c21 : l0 = (46 : Int32)
  · replace h := bv_tt c21 h
    refine ev_tableIn (202) 203 dX8_twoOf_1 (by rw [c21]; decide) (by rw [c21]; decide) (by rw [c21]; decide) (by decide) ?_
    refine ev_iload_n dX8_twoOf_203 rfl ?_
    refine ev_if_ne 211 dX8_twoOf_204 (by decide) (fun c22 => ?_) (fun c22 => ?_)
    · replace h := bv_ff c22 h
      refine ev_iconst (1 : Int32) dX8_twoOf_211 (by decide) ?_
      refine ev_goto 216 dX8_twoOf_212 (by decide) ?_
      obtain rfl := Option.some.inj h
      exact ev_iret rfl dX8_twoOf_216 ⟨rfl, rfl, rfl⟩
    · replace h := bv_tt c22 h
      refine ev_iload_n dX8_twoOf_207 rfl ?_
      refine ev_if_eq 215 dX8_twoOf_208 (by decide) (fun c23 => ?_) (fun c23 => ?_)
      · replace h := bv_tt c23 h
        refine ev_iconst (0 : Int32) dX8_twoOf_215 (by decide) ?_
        obtain rfl := Option.some.inj h
        exact ev_iret rfl dX8_twoOf_216 ⟨rfl, rfl, rfl⟩
      · replace h := bv_ff c23 h
        refine ev_iconst (1 : Int32) dX8_twoOf_211 (by decide) ?_
        refine ev_goto 216 dX8_twoOf_212 (by decide) ?_
        obtain rfl := Option.some.inj h
        exact ev_iret rfl dX8_twoOf_216 ⟨rfl, rfl, rfl⟩
  replace h := bv_ff c21 h
  by_cases c24 : l0 = (47 : Int32)
  · replace h := bv_tt c24 h
    refine ev_tableIn (131) 132 dX8_twoOf_1 (by rw [c24]; decide) (by rw [c24]; decide) (by rw [c24]; decide) (by decide) ?_
    refine ev_iload_n dX8_twoOf_132 rfl ?_
    refine ev_if_ne 140 dX8_twoOf_133 (by decide) (fun c25 => ?_) (fun c25 => ?_)
    · replace h := bv_ff c25 h
      refine ev_iload_n dX8_twoOf_140 rfl ?_
      refine ev_iload_n dX8_twoOf_141 rfl ?_
      obtain ⟨g2, h⟩ := bv_gd h
      refine ev_idiv dX8_twoOf_142 g2 ?_
      obtain rfl := Option.some.inj h
      exact ev_iret rfl dX8_twoOf_143 ⟨rfl, rfl, rfl⟩
    · replace h := bv_tt c25 h
      refine ev_iconst (0 : Int32) dX8_twoOf_136 (by decide) ?_
      refine ev_goto 143 dX8_twoOf_137 (by decide) ?_
      obtain rfl := Option.some.inj h
      exact ev_iret rfl dX8_twoOf_143 ⟨rfl, rfl, rfl⟩
  replace h := bv_ff c24 h
  by_cases c26 : l0 = (48 : Int32)
  · replace h := bv_tt c26 h
    refine ev_tableIn (202) 203 dX8_twoOf_1 (by rw [c26]; decide) (by rw [c26]; decide) (by rw [c26]; decide) (by decide) ?_
    refine ev_iload_n dX8_twoOf_203 rfl ?_
    refine ev_if_ne 211 dX8_twoOf_204 (by decide) (fun c27 => ?_) (fun c27 => ?_)
    · replace h := bv_ff c27 h
      refine ev_iconst (1 : Int32) dX8_twoOf_211 (by decide) ?_
      refine ev_goto 216 dX8_twoOf_212 (by decide) ?_
      obtain rfl := Option.some.inj h
      exact ev_iret rfl dX8_twoOf_216 ⟨rfl, rfl, rfl⟩
    · replace h := bv_tt c27 h
      refine ev_iload_n dX8_twoOf_207 rfl ?_
      refine ev_if_eq 215 dX8_twoOf_208 (by decide) (fun c28 => ?_) (fun c28 => ?_)
      · replace h := bv_tt c28 h
        refine ev_iconst (0 : Int32) dX8_twoOf_215 (by decide) ?_
        obtain rfl := Option.some.inj h
        exact ev_iret rfl dX8_twoOf_216 ⟨rfl, rfl, rfl⟩
      · replace h := bv_ff c28 h
        refine ev_iconst (1 : Int32) dX8_twoOf_211 (by decide) ?_
        refine ev_goto 216 dX8_twoOf_212 (by decide) ?_
        obtain rfl := Option.some.inj h
        exact ev_iret rfl dX8_twoOf_216 ⟨rfl, rfl, rfl⟩
  replace h := bv_ff c26 h
  by_cases c29 : l0 = (49 : Int32)
  · replace h := bv_tt c29 h
    refine ev_tableIn (202) 203 dX8_twoOf_1 (by rw [c29]; decide) (by rw [c29]; decide) (by rw [c29]; decide) (by decide) ?_
    refine ev_iload_n dX8_twoOf_203 rfl ?_
    refine ev_if_ne 211 dX8_twoOf_204 (by decide) (fun c30 => ?_) (fun c30 => ?_)
    · replace h := bv_ff c30 h
      refine ev_iconst (1 : Int32) dX8_twoOf_211 (by decide) ?_
      refine ev_goto 216 dX8_twoOf_212 (by decide) ?_
      obtain rfl := Option.some.inj h
      exact ev_iret rfl dX8_twoOf_216 ⟨rfl, rfl, rfl⟩
    · replace h := bv_tt c30 h
      refine ev_iload_n dX8_twoOf_207 rfl ?_
      refine ev_if_eq 215 dX8_twoOf_208 (by decide) (fun c31 => ?_) (fun c31 => ?_)
      · replace h := bv_tt c31 h
        refine ev_iconst (0 : Int32) dX8_twoOf_215 (by decide) ?_
        obtain rfl := Option.some.inj h
        exact ev_iret rfl dX8_twoOf_216 ⟨rfl, rfl, rfl⟩
      · replace h := bv_ff c31 h
        refine ev_iconst (1 : Int32) dX8_twoOf_211 (by decide) ?_
        refine ev_goto 216 dX8_twoOf_212 (by decide) ?_
        obtain rfl := Option.some.inj h
        exact ev_iret rfl dX8_twoOf_216 ⟨rfl, rfl, rfl⟩
  replace h := bv_ff c29 h
  by_cases c32 : l0 = (50 : Int32)
  · replace h := bv_tt c32 h
    refine ev_tableIn (202) 203 dX8_twoOf_1 (by rw [c32]; decide) (by rw [c32]; decide) (by rw [c32]; decide) (by decide) ?_
    refine ev_iload_n dX8_twoOf_203 rfl ?_
    refine ev_if_ne 211 dX8_twoOf_204 (by decide) (fun c33 => ?_) (fun c33 => ?_)
    · replace h := bv_ff c33 h
      refine ev_iconst (1 : Int32) dX8_twoOf_211 (by decide) ?_
      refine ev_goto 216 dX8_twoOf_212 (by decide) ?_
      obtain rfl := Option.some.inj h
      exact ev_iret rfl dX8_twoOf_216 ⟨rfl, rfl, rfl⟩
    · replace h := bv_tt c33 h
      refine ev_iload_n dX8_twoOf_207 rfl ?_
      refine ev_if_eq 215 dX8_twoOf_208 (by decide) (fun c34 => ?_) (fun c34 => ?_)
      · replace h := bv_tt c34 h
        refine ev_iconst (0 : Int32) dX8_twoOf_215 (by decide) ?_
        obtain rfl := Option.some.inj h
        exact ev_iret rfl dX8_twoOf_216 ⟨rfl, rfl, rfl⟩
      · replace h := bv_ff c34 h
        refine ev_iconst (1 : Int32) dX8_twoOf_211 (by decide) ?_
        refine ev_goto 216 dX8_twoOf_212 (by decide) ?_
        obtain rfl := Option.some.inj h
        exact ev_iret rfl dX8_twoOf_216 ⟨rfl, rfl, rfl⟩
  replace h := bv_ff c32 h
  by_cases c35 : l0 = (51 : Int32)
  · replace h := bv_tt c35 h
    refine ev_tableIn (202) 203 dX8_twoOf_1 (by rw [c35]; decide) (by rw [c35]; decide) (by rw [c35]; decide) (by decide) ?_
    refine ev_iload_n dX8_twoOf_203 rfl ?_
    refine ev_if_ne 211 dX8_twoOf_204 (by decide) (fun c36 => ?_) (fun c36 => ?_)
    · replace h := bv_ff c36 h
      refine ev_iconst (1 : Int32) dX8_twoOf_211 (by decide) ?_
      refine ev_goto 216 dX8_twoOf_212 (by decide) ?_
      obtain rfl := Option.some.inj h
      exact ev_iret rfl dX8_twoOf_216 ⟨rfl, rfl, rfl⟩
    · replace h := bv_tt c36 h
      refine ev_iload_n dX8_twoOf_207 rfl ?_
      refine ev_if_eq 215 dX8_twoOf_208 (by decide) (fun c37 => ?_) (fun c37 => ?_)
      · replace h := bv_tt c37 h
        refine ev_iconst (0 : Int32) dX8_twoOf_215 (by decide) ?_
        obtain rfl := Option.some.inj h
        exact ev_iret rfl dX8_twoOf_216 ⟨rfl, rfl, rfl⟩
      · replace h := bv_ff c37 h
        refine ev_iconst (1 : Int32) dX8_twoOf_211 (by decide) ?_
        refine ev_goto 216 dX8_twoOf_212 (by decide) ?_
        obtain rfl := Option.some.inj h
        exact ev_iret rfl dX8_twoOf_216 ⟨rfl, rfl, rfl⟩
  replace h := bv_ff c35 h
  by_cases c38 : l0 = (52 : Int32)
  · replace h := bv_tt c38 h
    refine ev_tableIn (202) 203 dX8_twoOf_1 (by rw [c38]; decide) (by rw [c38]; decide) (by rw [c38]; decide) (by decide) ?_
    refine ev_iload_n dX8_twoOf_203 rfl ?_
    refine ev_if_ne 211 dX8_twoOf_204 (by decide) (fun c39 => ?_) (fun c39 => ?_)
    · replace h := bv_ff c39 h
      refine ev_iconst (1 : Int32) dX8_twoOf_211 (by decide) ?_
      refine ev_goto 216 dX8_twoOf_212 (by decide) ?_
      obtain rfl := Option.some.inj h
      exact ev_iret rfl dX8_twoOf_216 ⟨rfl, rfl, rfl⟩
    · replace h := bv_tt c39 h
      refine ev_iload_n dX8_twoOf_207 rfl ?_
      refine ev_if_eq 215 dX8_twoOf_208 (by decide) (fun c40 => ?_) (fun c40 => ?_)
      · replace h := bv_tt c40 h
        refine ev_iconst (0 : Int32) dX8_twoOf_215 (by decide) ?_
        obtain rfl := Option.some.inj h
        exact ev_iret rfl dX8_twoOf_216 ⟨rfl, rfl, rfl⟩
      · replace h := bv_ff c40 h
        refine ev_iconst (1 : Int32) dX8_twoOf_211 (by decide) ?_
        refine ev_goto 216 dX8_twoOf_212 (by decide) ?_
        obtain rfl := Option.some.inj h
        exact ev_iret rfl dX8_twoOf_216 ⟨rfl, rfl, rfl⟩
  replace h := bv_ff c38 h
  by_cases c41 : l0 = (53 : Int32)
  · replace h := bv_tt c41 h
    refine ev_tableIn (202) 203 dX8_twoOf_1 (by rw [c41]; decide) (by rw [c41]; decide) (by rw [c41]; decide) (by decide) ?_
    refine ev_iload_n dX8_twoOf_203 rfl ?_
    refine ev_if_ne 211 dX8_twoOf_204 (by decide) (fun c42 => ?_) (fun c42 => ?_)
    · replace h := bv_ff c42 h
      refine ev_iconst (1 : Int32) dX8_twoOf_211 (by decide) ?_
      refine ev_goto 216 dX8_twoOf_212 (by decide) ?_
      obtain rfl := Option.some.inj h
      exact ev_iret rfl dX8_twoOf_216 ⟨rfl, rfl, rfl⟩
    · replace h := bv_tt c42 h
      refine ev_iload_n dX8_twoOf_207 rfl ?_
      refine ev_if_eq 215 dX8_twoOf_208 (by decide) (fun c43 => ?_) (fun c43 => ?_)
      · replace h := bv_tt c43 h
        refine ev_iconst (0 : Int32) dX8_twoOf_215 (by decide) ?_
        obtain rfl := Option.some.inj h
        exact ev_iret rfl dX8_twoOf_216 ⟨rfl, rfl, rfl⟩
      · replace h := bv_ff c43 h
        refine ev_iconst (1 : Int32) dX8_twoOf_211 (by decide) ?_
        refine ev_goto 216 dX8_twoOf_212 (by decide) ?_
        obtain rfl := Option.some.inj h
        exact ev_iret rfl dX8_twoOf_216 ⟨rfl, rfl, rfl⟩
  replace h := bv_ff c41 h
  by_cases c44 : l0 = (54 : Int32)
  · replace h := bv_tt c44 h
    refine ev_tableIn (202) 203 dX8_twoOf_1 (by rw [c44]; decide) (by rw [c44]; decide) (by rw [c44]; decide) (by decide) ?_
    refine ev_iload_n dX8_twoOf_203 rfl ?_
    refine ev_if_ne 211 dX8_twoOf_204 (by decide) (fun c45 => ?_) (fun c45 => ?_)
    · replace h := bv_ff c45 h
      refine ev_iconst (1 : Int32) dX8_twoOf_211 (by decide) ?_
      refine ev_goto 216 dX8_twoOf_212 (by decide) ?_
      obtain rfl := Option.some.inj h
      exact ev_iret rfl dX8_twoOf_216 ⟨rfl, rfl, rfl⟩
    · replace h := bv_tt c45 h
      refine ev_iload_n dX8_twoOf_207 rfl ?_
      refine ev_if_eq 215 dX8_twoOf_208 (by decide) (fun c46 => ?_) (fun c46 => ?_)
      · replace h := bv_tt c46 h
        refine ev_iconst (0 : Int32) dX8_twoOf_215 (by decide) ?_
        obtain rfl := Option.some.inj h
        exact ev_iret rfl dX8_twoOf_216 ⟨rfl, rfl, rfl⟩
      · replace h := bv_ff c46 h
        refine ev_iconst (1 : Int32) dX8_twoOf_211 (by decide) ?_
        refine ev_goto 216 dX8_twoOf_212 (by decide) ?_
        obtain rfl := Option.some.inj h
        exact ev_iret rfl dX8_twoOf_216 ⟨rfl, rfl, rfl⟩
  replace h := bv_ff c44 h
  by_cases c47 : l0 = (55 : Int32)
  · replace h := bv_tt c47 h
    refine ev_tableIn (202) 203 dX8_twoOf_1 (by rw [c47]; decide) (by rw [c47]; decide) (by rw [c47]; decide) (by decide) ?_
    refine ev_iload_n dX8_twoOf_203 rfl ?_
    refine ev_if_ne 211 dX8_twoOf_204 (by decide) (fun c48 => ?_) (fun c48 => ?_)
    · replace h := bv_ff c48 h
      refine ev_iconst (1 : Int32) dX8_twoOf_211 (by decide) ?_
      refine ev_goto 216 dX8_twoOf_212 (by decide) ?_
      obtain rfl := Option.some.inj h
      exact ev_iret rfl dX8_twoOf_216 ⟨rfl, rfl, rfl⟩
    · replace h := bv_tt c48 h
      refine ev_iload_n dX8_twoOf_207 rfl ?_
      refine ev_if_eq 215 dX8_twoOf_208 (by decide) (fun c49 => ?_) (fun c49 => ?_)
      · replace h := bv_tt c49 h
        refine ev_iconst (0 : Int32) dX8_twoOf_215 (by decide) ?_
        obtain rfl := Option.some.inj h
        exact ev_iret rfl dX8_twoOf_216 ⟨rfl, rfl, rfl⟩
      · replace h := bv_ff c49 h
        refine ev_iconst (1 : Int32) dX8_twoOf_211 (by decide) ?_
        refine ev_goto 216 dX8_twoOf_212 (by decide) ?_
        obtain rfl := Option.some.inj h
        exact ev_iret rfl dX8_twoOf_216 ⟨rfl, rfl, rfl⟩
  replace h := bv_ff c47 h
  by_cases c50 : l0 = (56 : Int32)
  · replace h := bv_tt c50 h
    refine ev_tableIn (202) 203 dX8_twoOf_1 (by rw [c50]; decide) (by rw [c50]; decide) (by rw [c50]; decide) (by decide) ?_
    refine ev_iload_n dX8_twoOf_203 rfl ?_
    refine ev_if_ne 211 dX8_twoOf_204 (by decide) (fun c51 => ?_) (fun c51 => ?_)
    · replace h := bv_ff c51 h
      refine ev_iconst (1 : Int32) dX8_twoOf_211 (by decide) ?_
      refine ev_goto 216 dX8_twoOf_212 (by decide) ?_
      obtain rfl := Option.some.inj h
      exact ev_iret rfl dX8_twoOf_216 ⟨rfl, rfl, rfl⟩
    · replace h := bv_tt c51 h
      refine ev_iload_n dX8_twoOf_207 rfl ?_
      refine ev_if_eq 215 dX8_twoOf_208 (by decide) (fun c52 => ?_) (fun c52 => ?_)
      · replace h := bv_tt c52 h
        refine ev_iconst (0 : Int32) dX8_twoOf_215 (by decide) ?_
        obtain rfl := Option.some.inj h
        exact ev_iret rfl dX8_twoOf_216 ⟨rfl, rfl, rfl⟩
      · replace h := bv_ff c52 h
        refine ev_iconst (1 : Int32) dX8_twoOf_211 (by decide) ?_
        refine ev_goto 216 dX8_twoOf_212 (by decide) ?_
        obtain rfl := Option.some.inj h
        exact ev_iret rfl dX8_twoOf_216 ⟨rfl, rfl, rfl⟩
  replace h := bv_ff c50 h
  by_cases c53 : l0 = (57 : Int32)
  · replace h := bv_tt c53 h
    refine ev_tableIn (202) 203 dX8_twoOf_1 (by rw [c53]; decide) (by rw [c53]; decide) (by rw [c53]; decide) (by decide) ?_
    refine ev_iload_n dX8_twoOf_203 rfl ?_
    refine ev_if_ne 211 dX8_twoOf_204 (by decide) (fun c54 => ?_) (fun c54 => ?_)
    · replace h := bv_ff c54 h
      refine ev_iconst (1 : Int32) dX8_twoOf_211 (by decide) ?_
      refine ev_goto 216 dX8_twoOf_212 (by decide) ?_
      obtain rfl := Option.some.inj h
      exact ev_iret rfl dX8_twoOf_216 ⟨rfl, rfl, rfl⟩
    · replace h := bv_tt c54 h
      refine ev_iload_n dX8_twoOf_207 rfl ?_
      refine ev_if_eq 215 dX8_twoOf_208 (by decide) (fun c55 => ?_) (fun c55 => ?_)
      · replace h := bv_tt c55 h
        refine ev_iconst (0 : Int32) dX8_twoOf_215 (by decide) ?_
        obtain rfl := Option.some.inj h
        exact ev_iret rfl dX8_twoOf_216 ⟨rfl, rfl, rfl⟩
      · replace h := bv_ff c55 h
        refine ev_iconst (1 : Int32) dX8_twoOf_211 (by decide) ?_
        refine ev_goto 216 dX8_twoOf_212 (by decide) ?_
        obtain rfl := Option.some.inj h
        exact ev_iret rfl dX8_twoOf_216 ⟨rfl, rfl, rfl⟩
  replace h := bv_ff c53 h
  by_cases c56 : l0 = (58 : Int32)
  · replace h := bv_tt c56 h
    refine ev_tableIn (202) 203 dX8_twoOf_1 (by rw [c56]; decide) (by rw [c56]; decide) (by rw [c56]; decide) (by decide) ?_
    refine ev_iload_n dX8_twoOf_203 rfl ?_
    refine ev_if_ne 211 dX8_twoOf_204 (by decide) (fun c57 => ?_) (fun c57 => ?_)
    · replace h := bv_ff c57 h
      refine ev_iconst (1 : Int32) dX8_twoOf_211 (by decide) ?_
      refine ev_goto 216 dX8_twoOf_212 (by decide) ?_
      obtain rfl := Option.some.inj h
      exact ev_iret rfl dX8_twoOf_216 ⟨rfl, rfl, rfl⟩
    · replace h := bv_tt c57 h
      refine ev_iload_n dX8_twoOf_207 rfl ?_
      refine ev_if_eq 215 dX8_twoOf_208 (by decide) (fun c58 => ?_) (fun c58 => ?_)
      · replace h := bv_tt c58 h
        refine ev_iconst (0 : Int32) dX8_twoOf_215 (by decide) ?_
        obtain rfl := Option.some.inj h
        exact ev_iret rfl dX8_twoOf_216 ⟨rfl, rfl, rfl⟩
      · replace h := bv_ff c58 h
        refine ev_iconst (1 : Int32) dX8_twoOf_211 (by decide) ?_
        refine ev_goto 216 dX8_twoOf_212 (by decide) ?_
        obtain rfl := Option.some.inj h
        exact ev_iret rfl dX8_twoOf_216 ⟨rfl, rfl, rfl⟩
  replace h := bv_ff c56 h
  by_cases c59 : l0 = (59 : Int32)
  · replace h := bv_tt c59 h
    refine ev_tableIn (202) 203 dX8_twoOf_1 (by rw [c59]; decide) (by rw [c59]; decide) (by rw [c59]; decide) (by decide) ?_
    refine ev_iload_n dX8_twoOf_203 rfl ?_
    refine ev_if_ne 211 dX8_twoOf_204 (by decide) (fun c60 => ?_) (fun c60 => ?_)
    · replace h := bv_ff c60 h
      refine ev_iconst (1 : Int32) dX8_twoOf_211 (by decide) ?_
      refine ev_goto 216 dX8_twoOf_212 (by decide) ?_
      obtain rfl := Option.some.inj h
      exact ev_iret rfl dX8_twoOf_216 ⟨rfl, rfl, rfl⟩
    · replace h := bv_tt c60 h
      refine ev_iload_n dX8_twoOf_207 rfl ?_
      refine ev_if_eq 215 dX8_twoOf_208 (by decide) (fun c61 => ?_) (fun c61 => ?_)
      · replace h := bv_tt c61 h
        refine ev_iconst (0 : Int32) dX8_twoOf_215 (by decide) ?_
        obtain rfl := Option.some.inj h
        exact ev_iret rfl dX8_twoOf_216 ⟨rfl, rfl, rfl⟩
      · replace h := bv_ff c61 h
        refine ev_iconst (1 : Int32) dX8_twoOf_211 (by decide) ?_
        refine ev_goto 216 dX8_twoOf_212 (by decide) ?_
        obtain rfl := Option.some.inj h
        exact ev_iret rfl dX8_twoOf_216 ⟨rfl, rfl, rfl⟩
  replace h := bv_ff c59 h
  by_cases c62 : l0 = (60 : Int32)
  · replace h := bv_tt c62 h
    refine ev_tableIn (155) 156 dX8_twoOf_1 (by rw [c62]; decide) (by rw [c62]; decide) (by rw [c62]; decide) (by decide) ?_
    refine ev_iload_n dX8_twoOf_156 rfl ?_
    refine ev_iload_n dX8_twoOf_157 rfl ?_
    refine ev_icmp_ge 165 dX8_twoOf_158 (by decide) (fun c63 => ?_) (fun c63 => ?_)
    · replace h := bv_tt c63 h
      refine ev_iconst (0 : Int32) dX8_twoOf_165 (by decide) ?_
      obtain rfl := Option.some.inj h
      exact ev_iret rfl dX8_twoOf_166 ⟨rfl, rfl, rfl⟩
    · replace h := bv_ff c63 h
      refine ev_iconst (1 : Int32) dX8_twoOf_161 (by decide) ?_
      refine ev_goto 166 dX8_twoOf_162 (by decide) ?_
      obtain rfl := Option.some.inj h
      exact ev_iret rfl dX8_twoOf_166 ⟨rfl, rfl, rfl⟩
  replace h := bv_ff c62 h
  by_cases c64 : l0 = (61 : Int32)
  · replace h := bv_tt c64 h
    refine ev_tableIn (166) 167 dX8_twoOf_1 (by rw [c64]; decide) (by rw [c64]; decide) (by rw [c64]; decide) (by decide) ?_
    refine ev_iload_n dX8_twoOf_167 rfl ?_
    refine ev_iload_n dX8_twoOf_168 rfl ?_
    refine ev_icmp_ne 176 dX8_twoOf_169 (by decide) (fun c65 => ?_) (fun c65 => ?_)
    · replace h := bv_ff c65 h
      refine ev_iconst (0 : Int32) dX8_twoOf_176 (by decide) ?_
      obtain rfl := Option.some.inj h
      exact ev_iret rfl dX8_twoOf_177 ⟨rfl, rfl, rfl⟩
    · replace h := bv_tt c65 h
      refine ev_iconst (1 : Int32) dX8_twoOf_172 (by decide) ?_
      refine ev_goto 177 dX8_twoOf_173 (by decide) ?_
      obtain rfl := Option.some.inj h
      exact ev_iret rfl dX8_twoOf_177 ⟨rfl, rfl, rfl⟩
  replace h := bv_ff c64 h
  by_cases c66 : l0 = (62 : Int32)
  · replace h := bv_tt c66 h
    refine ev_tableIn (177) 178 dX8_twoOf_1 (by rw [c66]; decide) (by rw [c66]; decide) (by rw [c66]; decide) (by decide) ?_
    refine ev_iload_n dX8_twoOf_178 rfl ?_
    refine ev_iload_n dX8_twoOf_179 rfl ?_
    refine ev_icmp_le 187 dX8_twoOf_180 (by decide) (fun c67 => ?_) (fun c67 => ?_)
    · replace h := bv_tt c67 h
      refine ev_iconst (0 : Int32) dX8_twoOf_187 (by decide) ?_
      obtain rfl := Option.some.inj h
      exact ev_iret rfl dX8_twoOf_188 ⟨rfl, rfl, rfl⟩
    · replace h := bv_ff c67 h
      refine ev_iconst (1 : Int32) dX8_twoOf_183 (by decide) ?_
      refine ev_goto 188 dX8_twoOf_184 (by decide) ?_
      obtain rfl := Option.some.inj h
      exact ev_iret rfl dX8_twoOf_188 ⟨rfl, rfl, rfl⟩
  replace h := bv_ff c66 h
  refine ev_tableOut 203 dX8_twoOf_1 (bv_sw 26 (by decide) (fun j hj => by match j, hj with | 0, _ => exact c1 | 1, _ => exact c3 | 2, _ => exact c6 | 3, _ => exact c9 | 4, _ => exact c12 | 5, _ => exact c15 | 6, _ => exact c16 | 7, _ => exact c17 | 8, _ => exact c20 | 9, _ => exact c21 | 10, _ => exact c24 | 11, _ => exact c26 | 12, _ => exact c29 | 13, _ => exact c32 | 14, _ => exact c35 | 15, _ => exact c38 | 16, _ => exact c41 | 17, _ => exact c44 | 18, _ => exact c47 | 19, _ => exact c50 | 20, _ => exact c53 | 21, _ => exact c56 | 22, _ => exact c59 | 23, _ => exact c62 | 24, _ => exact c64 | 25, _ => exact c66 | j + 26, hj => exact absurd hj (by omega))) (by decide) ?_
  refine ev_iload_n dX8_twoOf_203 rfl ?_
  refine ev_if_ne 211 dX8_twoOf_204 (by decide) (fun c68 => ?_) (fun c68 => ?_)
  · replace h := bv_ff c68 h
    refine ev_iconst (1 : Int32) dX8_twoOf_211 (by decide) ?_
    refine ev_goto 216 dX8_twoOf_212 (by decide) ?_
    obtain rfl := Option.some.inj h
    exact ev_iret rfl dX8_twoOf_216 ⟨rfl, rfl, rfl⟩
  · replace h := bv_tt c68 h
    refine ev_iload_n dX8_twoOf_207 rfl ?_
    refine ev_if_eq 215 dX8_twoOf_208 (by decide) (fun c69 => ?_) (fun c69 => ?_)
    · replace h := bv_tt c69 h
      refine ev_iconst (0 : Int32) dX8_twoOf_215 (by decide) ?_
      obtain rfl := Option.some.inj h
      exact ev_iret rfl dX8_twoOf_216 ⟨rfl, rfl, rfl⟩
    · replace h := bv_ff c69 h
      refine ev_iconst (1 : Int32) dX8_twoOf_211 (by decide) ?_
      refine ev_goto 216 dX8_twoOf_212 (by decide) ?_
      obtain rfl := Option.some.inj h
      exact ev_iret rfl dX8_twoOf_216 ⟨rfl, rfl, rfl⟩
theorem wm_X8_twoOf   (l0 : Int32) (l1 : Int32) (l2 : Int32) (mi : bv_Mem) (z : Int32) (h : f_X8_twoOf  l0 l1 l2 mi = some z) : bv_Met yX8_twoOf MX8_twoOf bv_X0 0 74 74 [.int l0, .int l1, .int l2] (bv_mr mi) mi (bv_QP z mi) :=
  bv_Met.of (pn_X 8 (by decide)) rfl (fun q => absurd q Bool.false_ne_true) (Nat.le_of_ble_eq_true rfl) (we_X8_twoOf   l0 l1 l2 mi z h)
set_option maxRecDepth 100000 in
set_option maxHeartbeats 4000000 in
theorem wb_X8_works_38 (k_4 : Int32 → Int32 → Int32 → bv_Mem → Option (Int32 × bv_Mem)) (hk_4 : ∀ (l1 : Int32) (l2 : Int32) (l3 : Int32) (mi : bv_Mem) (z : Int32 × bv_Mem), k_4 l1 l2 l3 mi = some z → bv_Ev MX8_works bv_X0 1 74 74 (bv_QI z) 4 [some (.ref 61), some (.int l1), some (.int l2), some (.int l3), none] [] 74 (bv_mr mi) mi) (l1 : Int32) (l2 : Int32) (l3 : Int32) (l4 : Int32) (mi : bv_Mem) (z : Int32 × bv_Mem) (h : b_X8_works_38 k_4 l1 l2 l3 l4 mi = some z) : bv_Ev MX8_works bv_X0 1 74 74 (bv_QI z) 38 [some (.ref 61), some (.int l1), some (.int l2), some (.int l3), some (.int l4)] [] 74 (bv_mr mi) mi := by
  unfold b_X8_works_38 at h
  refine ev_aload_n dX8_works_38 rfl ?_
  refine ev_getR 69 lf_X8_31 dX8_works_39 rfl rfl rfl ?_
  refine ev_iload_n dX8_works_42 rfl ?_
  refine ev_iload dX8_works_43 rfl ?_
  refine ev_iconst (1 : Int32) dX8_works_45 (by decide) ?_
  refine ev_icmp_ne 63 dX8_works_46 (by decide) (fun c1 => ?_) (fun c1 => ?_)
  · replace h := bv_ff c1 h
    refine ev_aload_n dX8_works_63 rfl ?_
    refine ev_getR 68 lf_X8_28 dX8_works_64 rfl rfl rfl ?_
    refine ev_aload_n dX8_works_67 rfl ?_
    refine ev_getR 62 lf_X8_9 dX8_works_68 rfl rfl rfl ?_
    refine ev_iload_n dX8_works_71 rfl ?_
    refine ev_bipush (51 : Int32) dX8_works_72 (by decide) ?_
    refine ev_iadd dX8_works_74 ?_
    refine ev_iload_n dX8_works_75 rfl ?_
    refine ev_iadd dX8_works_76 ?_
    obtain ⟨g1, h⟩ := bv_gd h
    refine ev_iald (N := 371) dX8_works_77 rfl g1 ?_
    obtain ⟨g2, h⟩ := bv_gd h
    refine ev_iald (N := 3) dX8_works_78 rfl g2 ?_
    obtain ⟨g3, h⟩ := bv_gd h
    refine er_iast (N := 50) dX8_works_79 rfl g3 ?_
    refine ev_iinc (l2 + 1) dX8_works_80 rfl rfl rfl rfl ?_
    refine ev_goto 149 dX8_works_83 (by decide) ?_
    refine ev_iinc (l3 + 1) dX8_works_149 rfl rfl rfl rfl ?_
    refine ev_goto 4 dX8_works_152 (by decide) ?_
    exact ev_weak (by exact And.intro rfl (And.intro rfl (And.intro rfl (And.intro rfl (trivial))))) (hk_4 _ _ _ _ _ h)
  · replace h := bv_tt c1 h
    refine ev_aload_n dX8_works_49 rfl ?_
    refine ev_getR 62 lf_X8_9 dX8_works_50 rfl rfl rfl ?_
    refine ev_iload_n dX8_works_53 rfl ?_
    refine ev_bipush (51 : Int32) dX8_works_54 (by decide) ?_
    refine ev_iadd dX8_works_56 ?_
    refine ev_iload_n dX8_works_57 rfl ?_
    refine ev_iadd dX8_works_58 ?_
    obtain ⟨g4, h⟩ := bv_gd h
    refine ev_iald (N := 371) dX8_works_59 rfl g4 ?_
    refine ev_goto 79 dX8_works_60 (by decide) ?_
    obtain ⟨g5, h⟩ := bv_gd h
    refine er_iast (N := 50) dX8_works_79 rfl g5 ?_
    refine ev_iinc (l2 + 1) dX8_works_80 rfl rfl rfl rfl ?_
    refine ev_goto 149 dX8_works_83 (by decide) ?_
    refine ev_iinc (l3 + 1) dX8_works_149 rfl rfl rfl rfl ?_
    refine ev_goto 4 dX8_works_152 (by decide) ?_
    exact ev_weak (by exact And.intro rfl (And.intro rfl (And.intro rfl (And.intro rfl (trivial))))) (hk_4 _ _ _ _ _ h)
set_option maxRecDepth 100000 in
set_option maxHeartbeats 4000000 in
theorem wb_X8_works_4  : ∀ (fu : Nat) (l1 : Int32) (l2 : Int32) (l3 : Int32) (mi : bv_Mem) (z : Int32 × bv_Mem), b_X8_works_4 fu l1 l2 l3 mi = some z → bv_Ev MX8_works bv_X0 1 74 74 (bv_QI z) 4 [some (.ref 61), some (.int l1), some (.int l2), some (.int l3), none] [] 74 (bv_mr mi) mi := by
  intro fu
  induction fu with
  | zero =>
    intro l1 l2 l3 mi z h
    rw [b_X8_works_4] at h
    cases h
  | succ fu ih =>
    intro l1 l2 l3 mi z h
    rw [b_X8_works_4] at h
    refine ev_iload_n dX8_works_4 rfl ?_
    refine ev_aload_n dX8_works_5 rfl ?_
    refine ev_getR 62 lf_X8_9 dX8_works_6 rfl rfl rfl ?_
    refine ev_iload_n dX8_works_9 rfl ?_
    obtain ⟨g1, h⟩ := bv_gd h
    refine ev_iald (N := 371) dX8_works_10 rfl g1 ?_
    refine ev_icmp_ge 155 dX8_works_11 (by decide) (fun c1 => ?_) (fun c1 => ?_)
    · replace h := bv_tt c1 h
      refine ev_aload_n dX8_works_155 rfl ?_
      refine ev_getR 69 lf_X8_31 dX8_works_156 rfl rfl rfl ?_
      refine ev_iconst (0 : Int32) dX8_works_159 (by decide) ?_
      refine er_ialdk (N := 50) 0 dX8_works_160 rfl rfl rfl ?_
      obtain rfl := Option.some.inj h
      exact ev_iret rfl dX8_works_161 ⟨rfl, rfl, rfl⟩
    · replace h := bv_ff c1 h
      refine ev_aload_n dX8_works_14 rfl ?_
      refine ev_getR 62 lf_X8_9 dX8_works_15 rfl rfl rfl ?_
      refine ev_iload_n dX8_works_18 rfl ?_
      refine ev_iconst (1 : Int32) dX8_works_19 (by decide) ?_
      refine ev_iadd dX8_works_20 ?_
      refine ev_iload_n dX8_works_21 rfl ?_
      refine ev_iadd dX8_works_22 ?_
      obtain ⟨g2, h⟩ := bv_gd h
      refine ev_iald (N := 371) dX8_works_23 rfl g2 ?_
      refine ev_istore dX8_works_24 rfl rfl ?_
      refine ev_iload dX8_works_26 rfl ?_
      refine ev_iconst (1 : Int32) dX8_works_28 (by decide) ?_
      refine ev_icmp_eq 38 dX8_works_29 (by decide) (fun c2 => ?_) (fun c2 => ?_)
      · replace h := bv_tt c2 h
        exact ev_weak (by exact And.intro rfl (And.intro rfl (And.intro rfl (And.intro rfl (And.intro rfl (trivial)))))) (wb_X8_works_38 (b_X8_works_4 fu) ih _ _ _ _ _ _ h)
      · replace h := bv_ff c2 h
        refine ev_iload dX8_works_32 rfl ?_
        refine ev_iconst (2 : Int32) dX8_works_34 (by decide) ?_
        refine ev_icmp_ne 86 dX8_works_35 (by decide) (fun c3 => ?_) (fun c3 => ?_)
        · replace h := bv_ff c3 h
          refine ev_iload dX8_works_86 rfl ?_
          refine ev_iconst (3 : Int32) dX8_works_88 (by decide) ?_
          refine ev_icmp_ne 119 dX8_works_89 (by decide) (fun c4 => ?_) (fun c4 => ?_)
          · replace h := bv_ff c4 h
            refine ev_iinc (l2 + (-1)) dX8_works_119 rfl rfl rfl rfl ?_
            refine ev_aload_n dX8_works_122 rfl ?_
            refine ev_getR 69 lf_X8_31 dX8_works_123 rfl rfl rfl ?_
            refine ev_iload_n dX8_works_126 rfl ?_
            refine ev_iconst (1 : Int32) dX8_works_127 (by decide) ?_
            refine ev_isub dX8_works_128 ?_
            refine ev_iload dX8_works_129 rfl ?_
            refine ev_aload_n dX8_works_131 rfl ?_
            refine ev_getR 69 lf_X8_31 dX8_works_132 rfl rfl rfl ?_
            refine ev_iload_n dX8_works_135 rfl ?_
            refine ev_iconst (1 : Int32) dX8_works_136 (by decide) ?_
            refine ev_isub dX8_works_137 ?_
            obtain ⟨g3, h⟩ := bv_gd h
            refine ev_iald (N := 50) dX8_works_138 rfl g3 ?_
            refine ev_aload_n dX8_works_139 rfl ?_
            refine ev_getR 69 lf_X8_31 dX8_works_140 rfl rfl rfl ?_
            refine ev_iload_n dX8_works_143 rfl ?_
            obtain ⟨g4, h⟩ := bv_gd h
            refine ev_iald (N := 50) dX8_works_144 rfl g4 ?_
            obtain ⟨z1, hz1, h⟩ := bv_bd h
            refine er_SP [.int _, .int _, .int _] (fun _ _ q => q) lk_X8_181 dX8_works_145 rfl rfl rfl rfl (wm_X8_twoOf _ _ _ _ _ hz1) ?_
            refine er_iast (N := 50) dX8_works_148 rfl g3 ?_
            refine ev_iinc (l3 + 1) dX8_works_149 rfl rfl rfl rfl ?_
            refine ev_goto 4 dX8_works_152 (by decide) ?_
            exact ev_weak (by exact And.intro rfl (And.intro rfl (And.intro rfl (And.intro rfl (trivial))))) (ih _ _ _ _ _ h)
          · replace h := bv_tt c4 h
            refine ev_aload_n dX8_works_92 rfl ?_
            refine ev_getR 69 lf_X8_31 dX8_works_93 rfl rfl rfl ?_
            refine ev_iload_n dX8_works_96 rfl ?_
            refine ev_iconst (1 : Int32) dX8_works_97 (by decide) ?_
            refine ev_isub dX8_works_98 ?_
            refine ev_aload_n dX8_works_99 rfl ?_
            refine ev_getR 69 lf_X8_31 dX8_works_100 rfl rfl rfl ?_
            refine ev_iload_n dX8_works_103 rfl ?_
            refine ev_iconst (1 : Int32) dX8_works_104 (by decide) ?_
            refine ev_isub dX8_works_105 ?_
            obtain ⟨g5, h⟩ := bv_gd h
            refine ev_iald (N := 50) dX8_works_106 rfl g5 ?_
            refine ev_if_ne 114 dX8_works_107 (by decide) (fun c5 => ?_) (fun c5 => ?_)
            · replace h := bv_ff c5 h
              refine ev_iconst (0 : Int32) dX8_works_114 (by decide) ?_
              refine er_iast (N := 50) dX8_works_115 rfl g5 ?_
              refine ev_goto 149 dX8_works_116 (by decide) ?_
              refine ev_iinc (l3 + 1) dX8_works_149 rfl rfl rfl rfl ?_
              refine ev_goto 4 dX8_works_152 (by decide) ?_
              exact ev_weak (by exact And.intro rfl (And.intro rfl (And.intro rfl (And.intro rfl (trivial))))) (ih _ _ _ _ _ h)
            · replace h := bv_tt c5 h
              refine ev_iconst (1 : Int32) dX8_works_110 (by decide) ?_
              refine ev_goto 115 dX8_works_111 (by decide) ?_
              refine er_iast (N := 50) dX8_works_115 rfl g5 ?_
              refine ev_goto 149 dX8_works_116 (by decide) ?_
              refine ev_iinc (l3 + 1) dX8_works_149 rfl rfl rfl rfl ?_
              refine ev_goto 4 dX8_works_152 (by decide) ?_
              exact ev_weak (by exact And.intro rfl (And.intro rfl (And.intro rfl (And.intro rfl (trivial))))) (ih _ _ _ _ _ h)
        · replace h := bv_tt c3 h
          exact ev_weak (by exact And.intro rfl (And.intro rfl (And.intro rfl (And.intro rfl (And.intro rfl (trivial)))))) (wb_X8_works_38 (b_X8_works_4 fu) ih _ _ _ _ _ _ h)
set_option maxRecDepth 100000 in
set_option maxHeartbeats 4000000 in
theorem we_X8_works   (l1 : Int32) (mi : bv_Mem) (z : Int32 × bv_Mem) (h : f_X8_works  l1 mi = some z) : bv_Ev MX8_works bv_X0 1 74 74 (bv_QI z) 0 [some (.ref 61), some (.int l1), none, none, none] [] 74 (bv_mr mi) mi := by
  unfold f_X8_works at h
  refine ev_iconst (0 : Int32) dX8_works_0 (by decide) ?_
  refine ev_istore_n dX8_works_1 rfl rfl ?_
  refine ev_iconst (0 : Int32) dX8_works_2 (by decide) ?_
  refine ev_istore_n dX8_works_3 rfl rfl ?_
  exact ev_weak (by exact And.intro rfl (And.intro rfl (And.intro rfl (And.intro rfl (trivial))))) (wb_X8_works_4  400 _ _ _ _ _ h)
theorem wm_X8_works   (l1 : Int32) (mi : bv_Mem) (z : Int32 × bv_Mem) (h : f_X8_works  l1 mi = some z) : bv_Met yX8_works MX8_works bv_X0 1 74 74 [.ref 61, .int l1] (bv_mr mi) mi (bv_QI z) :=
  bv_Met.of (pn_X 8 (by decide)) rfl (fun q => absurd q Bool.false_ne_true) (Nat.le_of_ble_eq_true rfl) (we_X8_works   l1 mi z h)
set_option maxRecDepth 100000 in
set_option maxHeartbeats 4000000 in
theorem wb_X8_gives_66  (l1 : Int32) (s0 : Int32) (mi : bv_Mem) (z : Int32 × bv_Mem) (h : b_X8_gives_66 l1 s0 mi = some z) : bv_Ev MX8_gives bv_X0 2 74 74 (bv_QI z) 66 [none, some (.int l1), none, none, none, none, none] [.int s0] 74 (bv_mr mi) mi := by
  unfold b_X8_gives_66 at h
  refine ev_istore dX8_gives_66 rfl rfl ?_
  refine ev_iload_n dX8_gives_68 rfl ?_
  refine ev_if_ne 83 dX8_gives_69 (by decide) (fun c1 => ?_) (fun c1 => ?_)
  · replace h := bv_ff c1 h
    refine ev_iload dX8_gives_83 rfl ?_
    refine ev_iconst (0 : Int32) dX8_gives_85 (by decide) ?_
    refine ev_sipush (999 : Int32) dX8_gives_86 (by decide) ?_
    obtain ⟨z1, hz1, h⟩ := bv_bd h
    refine er_SP [.int _, .int _, .int _] (fun _ _ q => q) lk_X8_187 dX8_gives_89 rfl rfl rfl rfl (wm_X8_held _ _ _ _ _ hz1) ?_
    obtain rfl := Option.some.inj h
    exact ev_iret rfl dX8_gives_92 ⟨rfl, rfl, rfl⟩
  · replace h := bv_tt c1 h
    refine ev_iload dX8_gives_72 rfl ?_
    refine ev_iconst (1 : Int32) dX8_gives_74 (by decide) ?_
    refine ev_bipush (99 : Int32) dX8_gives_75 (by decide) ?_
    obtain ⟨z2, hz2, h⟩ := bv_bd h
    refine er_SP [.int _, .int _, .int _] (fun _ _ q => q) lk_X8_187 dX8_gives_77 rfl rfl rfl rfl (wm_X8_held _ _ _ _ _ hz2) ?_
    refine ev_goto 92 dX8_gives_80 (by decide) ?_
    obtain rfl := Option.some.inj h
    exact ev_iret rfl dX8_gives_92 ⟨rfl, rfl, rfl⟩
set_option maxRecDepth 100000 in
set_option maxHeartbeats 4000000 in
theorem we_X8_gives   (l1 : Int32) (l2 : Int32) (l3 : Int32) (l4 : Int32) (mi : bv_Mem) (z : Int32 × bv_Mem) (h : f_X8_gives  l1 l2 l3 l4 mi = some z) : bv_Ev MX8_gives bv_X0 2 74 74 (bv_QI z) 0 [some (.ref 61), some (.int l1), some (.int l2), some (.int l3), some (.int l4), none, none] [] 74 (bv_mr mi) mi := by
  unfold f_X8_gives at h
  refine ev_sipush (169 : Int32) dX8_gives_0 (by decide) ?_
  refine ev_bipush (101 : Int32) dX8_gives_3 (by decide) ?_
  refine ev_iload_n dX8_gives_5 rfl ?_
  refine ev_imul dX8_gives_6 ?_
  refine ev_iadd dX8_gives_7 ?_
  refine ev_istore dX8_gives_8 rfl rfl ?_
  refine ev_aload_n dX8_gives_10 rfl ?_
  refine ev_getR 68 lf_X8_28 dX8_gives_11 rfl rfl rfl ?_
  refine ev_iconst (0 : Int32) dX8_gives_14 (by decide) ?_
  refine ev_iload_n dX8_gives_15 rfl ?_
  refine er_iastk (N := 3) 0 dX8_gives_16 rfl rfl rfl ?_
  refine ev_aload_n dX8_gives_17 rfl ?_
  refine ev_getR 68 lf_X8_28 dX8_gives_18 rfl rfl rfl ?_
  refine ev_iconst (1 : Int32) dX8_gives_21 (by decide) ?_
  refine ev_iload_n dX8_gives_22 rfl ?_
  refine er_iastk (N := 3) 1 dX8_gives_23 rfl rfl rfl ?_
  refine ev_aload_n dX8_gives_24 rfl ?_
  refine ev_getR 68 lf_X8_28 dX8_gives_25 rfl rfl rfl ?_
  refine ev_iconst (2 : Int32) dX8_gives_28 (by decide) ?_
  refine ev_iload dX8_gives_29 rfl ?_
  refine er_iastk (N := 3) 2 dX8_gives_31 rfl rfl rfl ?_
  refine ev_aload_n dX8_gives_32 rfl ?_
  refine ev_getR 62 lf_X8_9 dX8_gives_33 rfl rfl rfl ?_
  refine ev_iload dX8_gives_36 rfl ?_
  obtain ⟨g1, h⟩ := bv_gd h
  refine ev_iald (N := 371) dX8_gives_38 rfl g1 ?_
  refine ev_if_le 51 dX8_gives_39 (by decide) (fun c1 => ?_) (fun c1 => ?_)
  · replace h := bv_tt c1 h
    refine ev_iload_n dX8_gives_51 rfl ?_
    refine ev_if_ne 61 dX8_gives_52 (by decide) (fun c2 => ?_) (fun c2 => ?_)
    · replace h := bv_ff c2 h
      refine ev_iconst (2 : Int32) dX8_gives_61 (by decide) ?_
      refine ev_iload_n dX8_gives_62 rfl ?_
      refine ev_imul dX8_gives_63 ?_
      refine ev_iload_n dX8_gives_64 rfl ?_
      refine ev_iadd dX8_gives_65 ?_
      exact ev_weak (by exact And.intro rfl (trivial)) (wb_X8_gives_66  _ _ _ _ h)
    · replace h := bv_tt c2 h
      refine ev_iconst (3 : Int32) dX8_gives_55 (by decide) ?_
      refine ev_iload_n dX8_gives_56 rfl ?_
      refine ev_iadd dX8_gives_57 ?_
      refine ev_goto 66 dX8_gives_58 (by decide) ?_
      exact ev_weak (by exact And.intro rfl (trivial)) (wb_X8_gives_66  _ _ _ _ h)
  · replace h := bv_ff c1 h
    refine ev_aload_n dX8_gives_42 rfl ?_
    refine ev_iload dX8_gives_43 rfl ?_
    obtain ⟨z1, hz1, h⟩ := bv_bd h
    refine er_VI [.int _] (fun _ _ q => q) lk_X8_184 dX8_gives_45 rfl rfl rfl rfl rfl (wm_X8_works _ _ _ hz1) ?_
    refine ev_goto 66 dX8_gives_48 (by decide) ?_
    exact ev_weak (by exact And.intro rfl (trivial)) (wb_X8_gives_66  _ _ _ _ h)
theorem wm_X8_gives   (l1 : Int32) (l2 : Int32) (l3 : Int32) (l4 : Int32) (mi : bv_Mem) (z : Int32 × bv_Mem) (h : f_X8_gives  l1 l2 l3 l4 mi = some z) : bv_Met yX8_gives MX8_gives bv_X0 2 74 74 [.ref 61, .int l1, .int l2, .int l3, .int l4] (bv_mr mi) mi (bv_QI z) :=
  bv_Met.of (pn_X 8 (by decide)) rfl (fun q => absurd q Bool.false_ne_true) (Nat.le_of_ble_eq_true rfl) (we_X8_gives   l1 l2 l3 l4 mi z h)
set_option maxRecDepth 100000 in
set_option maxHeartbeats 4000000 in
theorem we_X8_isKm   (l0 : Int32) (mi : bv_Mem) (z : Int32) (h : f_X8_isKm  l0 mi = some z) : bv_Ev MX8_isKm bv_X0 1 74 74 (bv_QP z mi) 0 [some (.int l0)] [] 74 (bv_mr mi) mi := by
  unfold f_X8_isKm at h
  refine ev_iload_n dX8_isKm_0 rfl ?_
  refine ev_iconst (0 : Int32) dX8_isKm_1 (by decide) ?_
  refine ev_bipush (69 : Int32) dX8_isKm_2 (by decide) ?_
  obtain ⟨z1, hz1, h⟩ := bv_bd h
  refine er_SP [.int _, .int _, .int _] (fun _ _ q => q) lk_X8_47 dX8_isKm_4 rfl rfl rfl rfl (wm_X8_in _ _ _ _ _ hz1) ?_
  obtain ⟨g1, h⟩ := bv_gd h
  obtain rfl := Option.some.inj h
  exact ev_zret rfl g1 dX8_isKm_7 ⟨rfl, rfl, rfl⟩
theorem wm_X8_isKm   (l0 : Int32) (mi : bv_Mem) (z : Int32) (h : f_X8_isKm  l0 mi = some z) : bv_Met yX8_isKm MX8_isKm bv_X0 1 74 74 [.int l0] (bv_mr mi) mi (bv_QP z mi) :=
  bv_Met.of (pn_X 8 (by decide)) rfl (fun q => absurd q Bool.false_ne_true) (Nat.le_of_ble_eq_true rfl) (we_X8_isKm   l0 mi z h)
set_option maxRecDepth 100000 in
set_option maxHeartbeats 4000000 in
theorem we_X8_lay   (l1 : Int32) (l2 : Int32) (l3 : Int32) (mi : bv_Mem) (z : bv_Mem) (h : f_X8_lay  l1 l2 l3 mi = some z) : bv_Ev MX8_lay bv_X0 0 74 74 (bv_QV z) 0 [some (.ref 61), some (.int l1), some (.int l2), some (.int l3)] [] 74 (bv_mr mi) mi := by
  unfold f_X8_lay at h
  refine ev_aload_n dX8_lay_0 rfl ?_
  refine ev_getR 62 lf_X8_9 dX8_lay_1 rfl rfl rfl ?_
  refine ev_bipush (51 : Int32) dX8_lay_4 (by decide) ?_
  refine ev_bipush (6 : Int32) dX8_lay_6 (by decide) ?_
  refine ev_iload_n dX8_lay_8 rfl ?_
  refine ev_imul dX8_lay_9 ?_
  refine ev_iadd dX8_lay_10 ?_
  refine ev_iload_n dX8_lay_11 rfl ?_
  refine ev_iadd dX8_lay_12 ?_
  refine ev_iload_n dX8_lay_13 rfl ?_
  obtain ⟨g1, h⟩ := bv_gd h
  refine er_iast (N := 371) dX8_lay_14 rfl g1 ?_
  obtain rfl := Option.some.inj h
  exact ev_vret rfl dX8_lay_15 ⟨rfl, rfl, rfl⟩
theorem wm_X8_lay   (l1 : Int32) (l2 : Int32) (l3 : Int32) (mi : bv_Mem) (z : bv_Mem) (h : f_X8_lay  l1 l2 l3 mi = some z) : bv_Met yX8_lay MX8_lay bv_X0 0 74 74 [.ref 61, .int l1, .int l2, .int l3] (bv_mr mi) mi (bv_QV z) :=
  bv_Met.of (pn_X 8 (by decide)) rfl (fun q => absurd q Bool.false_ne_true) (Nat.le_of_ble_eq_true rfl) (we_X8_lay   l1 l2 l3 mi z h)
set_option maxRecDepth 100000 in
set_option maxHeartbeats 4000000 in
theorem wb_X8_fill_166  : ∀ (fu : Nat) (l4 : Int32) (l5 : Int32) (l6 : Int32) (l7 : Int32) (mi : bv_Mem) (z : Int32 × bv_Mem), b_X8_fill_166 fu l4 l5 l6 l7 mi = some z → bv_Ev MX8_fill bv_X0 3 74 74 (bv_QI z) 166 [some (.ref 61), none, none, none, some (.int l4), some (.int l5), some (.int l6), some (.int l7)] [] 74 (bv_mr mi) mi := by
  intro fu
  induction fu with
  | zero =>
    intro l4 l5 l6 l7 mi z h
    rw [b_X8_fill_166] at h
    cases h
  | succ fu ih =>
    intro l4 l5 l6 l7 mi z h
    rw [b_X8_fill_166] at h
    refine ev_iload dX8_fill_166 rfl ?_
    refine ev_bipush (20 : Int32) dX8_fill_168 (by decide) ?_
    refine ev_icmp_ge 228 dX8_fill_170 (by decide) (fun c1 => ?_) (fun c1 => ?_)
    · replace h := bv_tt c1 h
      refine ev_iload dX8_fill_228 rfl ?_
      obtain rfl := Option.some.inj h
      exact ev_iret rfl dX8_fill_230 ⟨rfl, rfl, rfl⟩
    · replace h := bv_ff c1 h
      refine ev_iload dX8_fill_173 rfl ?_
      refine ev_iload dX8_fill_175 rfl ?_
      refine ev_ishr dX8_fill_177 ?_
      refine ev_iconst (1 : Int32) dX8_fill_178 (by decide) ?_
      refine ev_iand dX8_fill_179 ?_
      refine ev_iconst (1 : Int32) dX8_fill_180 (by decide) ?_
      refine ev_icmp_ne 222 dX8_fill_181 (by decide) (fun c2 => ?_) (fun c2 => ?_)
      · replace h := bv_ff c2 h
        refine ev_iinc (l7 + 1) dX8_fill_222 rfl rfl rfl rfl ?_
        refine ev_goto 166 dX8_fill_225 (by decide) ?_
        exact ev_weak (by exact And.intro rfl (And.intro rfl (And.intro rfl (And.intro rfl (And.intro rfl (trivial)))))) (ih _ _ _ _ _ _ h)
      · replace h := bv_tt c2 h
        refine ev_aload_n dX8_fill_184 rfl ?_
        refine ev_getR 62 lf_X8_9 dX8_fill_185 rfl rfl rfl ?_
        refine ev_bipush (31 : Int32) dX8_fill_188 (by decide) ?_
        refine ev_iload dX8_fill_190 rfl ?_
        refine ev_iadd dX8_fill_192 ?_
        refine ev_aload_n dX8_fill_193 rfl ?_
        refine ev_iconst (0 : Int32) dX8_fill_194 (by decide) ?_
        refine ev_aload_n dX8_fill_195 rfl ?_
        refine ev_getR 62 lf_X8_9 dX8_fill_196 rfl rfl rfl ?_
        refine ev_bipush (11 : Int32) dX8_fill_199 (by decide) ?_
        refine ev_iload dX8_fill_201 rfl ?_
        refine ev_iadd dX8_fill_203 ?_
        obtain ⟨g1, h⟩ := bv_gd h
        refine ev_iald (N := 371) dX8_fill_204 rfl g1 ?_
        refine ev_iload dX8_fill_205 rfl ?_
        refine ev_iload dX8_fill_207 rfl ?_
        obtain ⟨z1, hz1, h⟩ := bv_bd h
        refine er_SP [.int _, .int _] (fun _ _ q => q) lk_X8_55 dX8_fill_209 rfl rfl rfl rfl (wm_X8_steps _ _ _ _ hz1) ?_
        refine ev_aload_n dX8_fill_212 rfl ?_
        refine ev_getR 62 lf_X8_9 dX8_fill_213 rfl rfl rfl ?_
        refine ev_iconst (0 : Int32) dX8_fill_216 (by decide) ?_
        refine er_ialdk (N := 371) 0 dX8_fill_217 rfl rfl rfl ?_
        obtain ⟨z2, hz2, h⟩ := bv_bd h
        refine er_VI [.int _, .int _, .int _, .int _] (fun _ _ q => q) lk_X8_102 dX8_fill_218 rfl rfl rfl rfl rfl (wm_X8_gives _ _ _ _ _ _ hz2) ?_
        obtain ⟨g2, h⟩ := bv_gd h
        refine er_iast (N := 371) dX8_fill_221 rfl g2 ?_
        refine ev_iinc (l7 + 1) dX8_fill_222 rfl rfl rfl rfl ?_
        refine ev_goto 166 dX8_fill_225 (by decide) ?_
        exact ev_weak (by exact And.intro rfl (And.intro rfl (And.intro rfl (And.intro rfl (And.intro rfl (trivial)))))) (ih _ _ _ _ _ _ h)
set_option maxRecDepth 100000 in
set_option maxHeartbeats 4000000 in
theorem we_X8_fill   (l1 : Int32) (l2 : Int32) (l3 : Int32) (l4 : Int32) (mi : bv_Mem) (z : Int32 × bv_Mem) (h : f_X8_fill  l1 l2 l3 l4 mi = some z) : bv_Ev MX8_fill bv_X0 3 74 74 (bv_QI z) 0 [some (.ref 61), some (.int l1), some (.int l2), some (.int l3), some (.int l4), none, none, none] [] 74 (bv_mr mi) mi := by
  unfold f_X8_fill at h
  refine ev_iload_n dX8_fill_0 rfl ?_
  obtain ⟨z1, hz1, h⟩ := bv_bd h
  refine er_SP [.int _] (fun _ _ q => q) lk_X8_106 dX8_fill_1 rfl rfl rfl rfl (wm_X8_isKm _ _ _ hz1) ?_
  refine ev_if_eq 35 dX8_fill_4 (by decide) (fun c1 => ?_) (fun c1 => ?_)
  · replace h := bv_tt c1 h
    refine ev_aload_n dX8_fill_35 rfl ?_
    refine ev_ldc (-1000000001 : Int32) dX8_fill_36 lc_X8_72 ?_
    obtain ⟨z2, hz2, h⟩ := bv_bd h
    refine er_VI [.int _] (fun _ _ q => q) lk_X8_73 dX8_fill_38 rfl rfl rfl rfl rfl (wm_X8_error _ _ _ hz2) ?_
    obtain rfl := Option.some.inj h
    exact ev_iret rfl dX8_fill_41 ⟨rfl, rfl, rfl⟩
  · replace h := bv_ff c1 h
    refine ev_aload_n dX8_fill_7 rfl ?_
    refine ev_iload_n dX8_fill_8 rfl ?_
    obtain ⟨z3, hz3, h⟩ := bv_bd h
    refine er_VP [.int _] (fun _ _ q => q) lk_X8_86 dX8_fill_9 rfl rfl rfl rfl rfl (wm_X8_isVillage _ _ _ hz3) ?_
    refine ev_if_eq 35 dX8_fill_12 (by decide) (fun c2 => ?_) (fun c2 => ?_)
    · replace h := bv_tt c2 h
      refine ev_aload_n dX8_fill_35 rfl ?_
      refine ev_ldc (-1000000001 : Int32) dX8_fill_36 lc_X8_72 ?_
      obtain ⟨z4, hz4, h⟩ := bv_bd h
      refine er_VI [.int _] (fun _ _ q => q) lk_X8_73 dX8_fill_38 rfl rfl rfl rfl rfl (wm_X8_error _ _ _ hz4) ?_
      obtain rfl := Option.some.inj h
      exact ev_iret rfl dX8_fill_41 ⟨rfl, rfl, rfl⟩
    · replace h := bv_ff c2 h
      refine ev_iload_n dX8_fill_15 rfl ?_
      refine ev_iconst (0 : Int32) dX8_fill_16 (by decide) ?_
      refine ev_iconst (1 : Int32) dX8_fill_17 (by decide) ?_
      obtain ⟨z5, hz5, h⟩ := bv_bd h
      refine er_SP [.int _, .int _, .int _] (fun _ _ q => q) lk_X8_47 dX8_fill_18 rfl rfl rfl rfl (wm_X8_in _ _ _ _ _ hz5) ?_
      refine ev_if_eq 35 dX8_fill_21 (by decide) (fun c3 => ?_) (fun c3 => ?_)
      · replace h := bv_tt c3 h
        refine ev_aload_n dX8_fill_35 rfl ?_
        refine ev_ldc (-1000000001 : Int32) dX8_fill_36 lc_X8_72 ?_
        obtain ⟨z6, hz6, h⟩ := bv_bd h
        refine er_VI [.int _] (fun _ _ q => q) lk_X8_73 dX8_fill_38 rfl rfl rfl rfl rfl (wm_X8_error _ _ _ hz6) ?_
        obtain rfl := Option.some.inj h
        exact ev_iret rfl dX8_fill_41 ⟨rfl, rfl, rfl⟩
      · replace h := bv_ff c3 h
        refine ev_iload dX8_fill_24 rfl ?_
        refine ev_iconst (1 : Int32) dX8_fill_26 (by decide) ?_
        refine ev_ldc (1048575 : Int32) dX8_fill_27 lc_X8_109 ?_
        obtain ⟨z7, hz7, h⟩ := bv_bd h
        refine er_SP [.int _, .int _, .int _] (fun _ _ q => q) lk_X8_47 dX8_fill_29 rfl rfl rfl rfl (wm_X8_in _ _ _ _ _ hz7) ?_
        refine ev_if_ne 42 dX8_fill_32 (by decide) (fun c4 => ?_) (fun c4 => ?_)
        · replace h := bv_ff c4 h
          refine ev_aload_n dX8_fill_42 rfl ?_
          refine ev_getR 62 lf_X8_9 dX8_fill_43 rfl rfl rfl ?_
          refine ev_bipush (6 : Int32) dX8_fill_46 (by decide) ?_
          refine ev_iload_n dX8_fill_48 rfl ?_
          refine ev_iadd dX8_fill_49 ?_
          obtain ⟨g1, h⟩ := bv_gd h
          refine ev_iald (N := 371) dX8_fill_50 rfl g1 ?_
          refine ev_istore dX8_fill_51 rfl rfl ?_
          refine ev_iload dX8_fill_53 rfl ?_
          refine ev_aload_n dX8_fill_55 rfl ?_
          refine ev_iload dX8_fill_56 rfl ?_
          refine ev_iload_n dX8_fill_58 rfl ?_
          obtain ⟨z8, hz8, h⟩ := bv_bd h
          refine er_VP [.int _, .int _] (fun _ _ q => q) lk_X8_62 dX8_fill_59 rfl rfl rfl rfl rfl (wm_X8_viewOf _ _ _ _ hz8) ?_
          refine ev_iconst (-1 : Int32) dX8_fill_62 (by decide) ?_
          refine ev_ixor dX8_fill_63 ?_
          refine ev_iand dX8_fill_64 ?_
          refine ev_if_eq 75 dX8_fill_65 (by decide) (fun c5 => ?_) (fun c5 => ?_)
          · replace h := bv_tt c5 h
            refine ev_aload_n dX8_fill_75 rfl ?_
            refine ev_getR 62 lf_X8_9 dX8_fill_76 rfl rfl rfl ?_
            refine ev_iconst (3 : Int32) dX8_fill_79 (by decide) ?_
            refine er_ialdk (N := 371) 3 dX8_fill_80 rfl rfl rfl ?_
            refine ev_istore dX8_fill_81 rfl rfl ?_
            refine ev_iload dX8_fill_83 rfl ?_
            refine ev_bipush (8 : Int32) dX8_fill_85 (by decide) ?_
            refine ev_icmp_ne 97 dX8_fill_87 (by decide) (fun c6 => ?_) (fun c6 => ?_)
            · replace h := bv_ff c6 h
              refine ev_aload_n dX8_fill_97 rfl ?_
              refine ev_getR 62 lf_X8_9 dX8_fill_98 rfl rfl rfl ?_
              refine ev_iconst (3 : Int32) dX8_fill_101 (by decide) ?_
              refine ev_dup2 dX8_fill_102 rfl rfl ?_
              refine er_ialdk (N := 371) 3 dX8_fill_103 rfl rfl rfl ?_
              refine ev_iconst (1 : Int32) dX8_fill_104 (by decide) ?_
              refine ev_iadd dX8_fill_105 ?_
              refine er_iastk (N := 371) 3 dX8_fill_106 rfl rfl rfl ?_
              refine ev_aload_n dX8_fill_107 rfl ?_
              refine ev_iload dX8_fill_108 rfl ?_
              refine ev_iconst (0 : Int32) dX8_fill_110 (by decide) ?_
              refine ev_iload_n dX8_fill_111 rfl ?_
              refine ev_bipush (10 : Int32) dX8_fill_112 (by decide) ?_
              refine ev_idiv dX8_fill_114 (by decide) ?_
              obtain ⟨z9, hz9, h⟩ := bv_bd h
              refine er_VV [.int _, .int _, .int _] (fun _ _ q => q) lk_X8_111 dX8_fill_115 rfl rfl rfl rfl rfl (wm_X8_lay _ _ _ _ _ hz9) ?_
              refine ev_aload_n dX8_fill_118 rfl ?_
              refine ev_iload dX8_fill_119 rfl ?_
              refine ev_iconst (1 : Int32) dX8_fill_121 (by decide) ?_
              refine ev_iload_n dX8_fill_122 rfl ?_
              refine ev_bipush (10 : Int32) dX8_fill_123 (by decide) ?_
              refine ev_irem dX8_fill_125 (by decide) ?_
              obtain ⟨z10, hz10, h⟩ := bv_bd h
              refine er_VV [.int _, .int _, .int _] (fun _ _ q => q) lk_X8_111 dX8_fill_126 rfl rfl rfl rfl rfl (wm_X8_lay _ _ _ _ _ hz10) ?_
              refine ev_aload_n dX8_fill_129 rfl ?_
              refine ev_iload dX8_fill_130 rfl ?_
              refine ev_iconst (2 : Int32) dX8_fill_132 (by decide) ?_
              refine ev_iload dX8_fill_133 rfl ?_
              obtain ⟨z11, hz11, h⟩ := bv_bd h
              refine er_VV [.int _, .int _, .int _] (fun _ _ q => q) lk_X8_111 dX8_fill_135 rfl rfl rfl rfl rfl (wm_X8_lay _ _ _ _ _ hz11) ?_
              refine ev_aload_n dX8_fill_138 rfl ?_
              refine ev_iload dX8_fill_139 rfl ?_
              refine ev_iconst (3 : Int32) dX8_fill_141 (by decide) ?_
              refine ev_iload dX8_fill_142 rfl ?_
              obtain ⟨z12, hz12, h⟩ := bv_bd h
              refine er_VV [.int _, .int _, .int _] (fun _ _ q => q) lk_X8_111 dX8_fill_144 rfl rfl rfl rfl rfl (wm_X8_lay _ _ _ _ _ hz12) ?_
              refine ev_aload_n dX8_fill_147 rfl ?_
              refine ev_iload dX8_fill_148 rfl ?_
              refine ev_iconst (4 : Int32) dX8_fill_150 (by decide) ?_
              refine ev_iconst (0 : Int32) dX8_fill_151 (by decide) ?_
              obtain ⟨z13, hz13, h⟩ := bv_bd h
              refine er_VV [.int _, .int _, .int _] (fun _ _ q => q) lk_X8_111 dX8_fill_152 rfl rfl rfl rfl rfl (wm_X8_lay _ _ _ _ _ hz13) ?_
              refine ev_aload_n dX8_fill_155 rfl ?_
              refine ev_iload dX8_fill_156 rfl ?_
              refine ev_iconst (5 : Int32) dX8_fill_158 (by decide) ?_
              refine ev_iconst (0 : Int32) dX8_fill_159 (by decide) ?_
              obtain ⟨z14, hz14, h⟩ := bv_bd h
              refine er_VV [.int _, .int _, .int _] (fun _ _ q => q) lk_X8_111 dX8_fill_160 rfl rfl rfl rfl rfl (wm_X8_lay _ _ _ _ _ hz14) ?_
              refine ev_iconst (0 : Int32) dX8_fill_163 (by decide) ?_
              refine ev_istore dX8_fill_164 rfl rfl ?_
              exact ev_weak (by exact And.intro rfl (And.intro rfl (And.intro rfl (And.intro rfl (And.intro rfl (trivial)))))) (wb_X8_fill_166  400 _ _ _ _ _ _ h)
            · replace h := bv_tt c6 h
              refine ev_aload_n dX8_fill_90 rfl ?_
              refine ev_ldc (-1000000004 : Int32) dX8_fill_91 lc_X8_85 ?_
              obtain ⟨z15, hz15, h⟩ := bv_bd h
              refine er_VI [.int _] (fun _ _ q => q) lk_X8_73 dX8_fill_93 rfl rfl rfl rfl rfl (wm_X8_error _ _ _ hz15) ?_
              obtain rfl := Option.some.inj h
              exact ev_iret rfl dX8_fill_96 ⟨rfl, rfl, rfl⟩
          · replace h := bv_ff c5 h
            refine ev_aload_n dX8_fill_68 rfl ?_
            refine ev_ldc (-1000000003 : Int32) dX8_fill_69 lc_X8_110 ?_
            obtain ⟨z16, hz16, h⟩ := bv_bd h
            refine er_VI [.int _] (fun _ _ q => q) lk_X8_73 dX8_fill_71 rfl rfl rfl rfl rfl (wm_X8_error _ _ _ hz16) ?_
            obtain rfl := Option.some.inj h
            exact ev_iret rfl dX8_fill_74 ⟨rfl, rfl, rfl⟩
        · replace h := bv_tt c4 h
          refine ev_aload_n dX8_fill_35 rfl ?_
          refine ev_ldc (-1000000001 : Int32) dX8_fill_36 lc_X8_72 ?_
          obtain ⟨z17, hz17, h⟩ := bv_bd h
          refine er_VI [.int _] (fun _ _ q => q) lk_X8_73 dX8_fill_38 rfl rfl rfl rfl rfl (wm_X8_error _ _ _ hz17) ?_
          obtain rfl := Option.some.inj h
          exact ev_iret rfl dX8_fill_41 ⟨rfl, rfl, rfl⟩
theorem wm_X8_fill   (l1 : Int32) (l2 : Int32) (l3 : Int32) (l4 : Int32) (mi : bv_Mem) (z : Int32 × bv_Mem) (h : f_X8_fill  l1 l2 l3 l4 mi = some z) : bv_Met yX8_fill MX8_fill bv_X0 3 74 74 [.ref 61, .int l1, .int l2, .int l3, .int l4] (bv_mr mi) mi (bv_QI z) :=
  bv_Met.of (pn_X 8 (by decide)) rfl (fun q => absurd q Bool.false_ne_true) (Nat.le_of_ble_eq_true rfl) (we_X8_fill   l1 l2 l3 l4 mi z h)
set_option maxRecDepth 100000 in
set_option maxHeartbeats 4000000 in
theorem we_X8_isBottle   (l1 : Int32) (mi : bv_Mem) (z : Int32) (h : f_X8_isBottle  l1 mi = some z) : bv_Ev MX8_isBottle bv_X0 1 74 74 (bv_QP z mi) 0 [some (.ref 61), some (.int l1)] [] 74 (bv_mr mi) mi := by
  unfold f_X8_isBottle at h
  refine ev_iload_n dX8_isBottle_0 rfl ?_
  refine ev_iconst (0 : Int32) dX8_isBottle_1 (by decide) ?_
  refine ev_aload_n dX8_isBottle_2 rfl ?_
  refine ev_getR 62 lf_X8_9 dX8_isBottle_3 rfl rfl rfl ?_
  refine ev_iconst (3 : Int32) dX8_isBottle_6 (by decide) ?_
  refine er_ialdk (N := 371) 3 dX8_isBottle_7 rfl rfl rfl ?_
  refine ev_iconst (1 : Int32) dX8_isBottle_8 (by decide) ?_
  refine ev_isub dX8_isBottle_9 ?_
  obtain ⟨z1, hz1, h⟩ := bv_bd h
  refine er_SP [.int _, .int _, .int _] (fun _ _ q => q) lk_X8_47 dX8_isBottle_10 rfl rfl rfl rfl (wm_X8_in _ _ _ _ _ hz1) ?_
  obtain ⟨g1, h⟩ := bv_gd h
  obtain rfl := Option.some.inj h
  exact ev_zret rfl g1 dX8_isBottle_13 ⟨rfl, rfl, rfl⟩
theorem wm_X8_isBottle   (l1 : Int32) (mi : bv_Mem) (z : Int32) (h : f_X8_isBottle  l1 mi = some z) : bv_Met yX8_isBottle MX8_isBottle bv_X0 1 74 74 [.ref 61, .int l1] (bv_mr mi) mi (bv_QP z mi) :=
  bv_Met.of (pn_X 8 (by decide)) rfl (fun q => absurd q Bool.false_ne_true) (Nat.le_of_ble_eq_true rfl) (we_X8_isBottle   l1 mi z h)
set_option maxRecDepth 100000 in
set_option maxHeartbeats 4000000 in
theorem we_X8_of   (l1 : Int32) (l2 : Int32) (mi : bv_Mem) (z : Int32) (h : f_X8_of  l1 l2 mi = some z) : bv_Ev MX8_of bv_X0 0 74 74 (bv_QP z mi) 0 [some (.ref 61), some (.int l1), some (.int l2)] [] 74 (bv_mr mi) mi := by
  unfold f_X8_of at h
  refine ev_aload_n dX8_of_0 rfl ?_
  refine ev_getR 62 lf_X8_9 dX8_of_1 rfl rfl rfl ?_
  refine ev_bipush (51 : Int32) dX8_of_4 (by decide) ?_
  refine ev_bipush (6 : Int32) dX8_of_6 (by decide) ?_
  refine ev_iload_n dX8_of_8 rfl ?_
  refine ev_imul dX8_of_9 ?_
  refine ev_iadd dX8_of_10 ?_
  refine ev_iload_n dX8_of_11 rfl ?_
  refine ev_iadd dX8_of_12 ?_
  obtain ⟨g1, h⟩ := bv_gd h
  refine ev_iald (N := 371) dX8_of_13 rfl g1 ?_
  obtain rfl := Option.some.inj h
  exact ev_iret rfl dX8_of_14 ⟨rfl, rfl, rfl⟩
theorem wm_X8_of   (l1 : Int32) (l2 : Int32) (mi : bv_Mem) (z : Int32) (h : f_X8_of  l1 l2 mi = some z) : bv_Met yX8_of MX8_of bv_X0 0 74 74 [.ref 61, .int l1, .int l2] (bv_mr mi) mi (bv_QP z mi) :=
  bv_Met.of (pn_X 8 (by decide)) rfl (fun q => absurd q Bool.false_ne_true) (Nat.le_of_ble_eq_true rfl) (we_X8_of   l1 l2 mi z h)
set_option maxRecDepth 100000 in
set_option maxHeartbeats 4000000 in
theorem wb_X8_between_6 (mi : bv_Mem) : ∀ (fu : Nat) (l1 : Int32) (l2 : Int32) (l3 : Int32) (l4 : Int32) (l5 : Int32) (z : Int32), b_X8_between_6 mi fu l1 l2 l3 l4 l5 = some z → bv_Ev MX8_between bv_X0 1 74 74 (bv_QP z mi) 6 [some (.ref 61), some (.int l1), some (.int l2), some (.int l3), some (.int l4), some (.int l5)] [] 74 (bv_mr mi) mi := by
  intro fu
  induction fu with
  | zero =>
    intro l1 l2 l3 l4 l5 z h
    rw [b_X8_between_6] at h
    cases h
  | succ fu ih =>
    intro l1 l2 l3 l4 l5 z h
    rw [b_X8_between_6] at h
    refine ev_iload dX8_between_6 rfl ?_
    refine ev_bipush (20 : Int32) dX8_between_8 (by decide) ?_
    refine ev_icmp_ge 66 dX8_between_10 (by decide) (fun c1 => ?_) (fun c1 => ?_)
    · replace h := bv_tt c1 h
      refine ev_iload dX8_between_66 rfl ?_
      obtain rfl := Option.some.inj h
      exact ev_iret rfl dX8_between_68 ⟨rfl, rfl, rfl⟩
    · replace h := bv_ff c1 h
      refine ev_iload dX8_between_13 rfl ?_
      refine ev_aload_n dX8_between_15 rfl ?_
      refine ev_iload_n dX8_between_16 rfl ?_
      refine ev_iconst (3 : Int32) dX8_between_17 (by decide) ?_
      obtain ⟨z1, hz1, h⟩ := bv_bd h
      refine er_VP [.int _, .int _] (fun _ _ q => q) lk_X8_89 dX8_between_18 rfl rfl rfl rfl rfl (wm_X8_of _ _ _ _ hz1) ?_
      refine ev_iload dX8_between_21 rfl ?_
      refine ev_ishr dX8_between_23 ?_
      refine ev_iconst (1 : Int32) dX8_between_24 (by decide) ?_
      refine ev_iand dX8_between_25 ?_
      refine ev_iconst (1 : Int32) dX8_between_26 (by decide) ?_
      refine ev_icmp_ne 56 dX8_between_27 (by decide) (fun c2 => ?_) (fun c2 => ?_)
      · replace h := bv_ff c2 h
        refine ev_iconst (0 : Int32) dX8_between_56 (by decide) ?_
        refine ev_ior dX8_between_57 ?_
        refine ev_istore dX8_between_58 rfl rfl ?_
        refine ev_iinc (l5 + 1) dX8_between_60 rfl rfl rfl rfl ?_
        refine ev_goto 6 dX8_between_63 (by decide) ?_
        exact ev_weak (by exact And.intro rfl (And.intro rfl (And.intro rfl (And.intro rfl (And.intro rfl (And.intro rfl (trivial))))))) (ih _ _ _ _ _ _ h)
      · replace h := bv_tt c2 h
        refine ev_aload_n dX8_between_30 rfl ?_
        refine ev_iload_n dX8_between_31 rfl ?_
        refine ev_iconst (2 : Int32) dX8_between_32 (by decide) ?_
        obtain ⟨z2, hz2, h⟩ := bv_bd h
        refine er_VP [.int _, .int _] (fun _ _ q => q) lk_X8_89 dX8_between_33 rfl rfl rfl rfl rfl (wm_X8_of _ _ _ _ hz2) ?_
        refine ev_iload dX8_between_36 rfl ?_
        obtain ⟨z3, hz3, h⟩ := bv_bd h
        refine er_SP [.int _, .int _] (fun _ _ q => q) lk_X8_55 dX8_between_38 rfl rfl rfl rfl (wm_X8_steps _ _ _ _ hz3) ?_
        refine ev_iload_n dX8_between_41 rfl ?_
        refine ev_iload_n dX8_between_42 rfl ?_
        obtain ⟨z4, hz4, h⟩ := bv_bd h
        refine er_SP [.int _, .int _, .int _] (fun _ _ q => q) lk_X8_47 dX8_between_43 rfl rfl rfl rfl (wm_X8_in _ _ _ _ _ hz4) ?_
        refine ev_if_eq 56 dX8_between_46 (by decide) (fun c3 => ?_) (fun c3 => ?_)
        · replace h := bv_tt c3 h
          refine ev_iconst (0 : Int32) dX8_between_56 (by decide) ?_
          refine ev_ior dX8_between_57 ?_
          refine ev_istore dX8_between_58 rfl rfl ?_
          refine ev_iinc (l5 + 1) dX8_between_60 rfl rfl rfl rfl ?_
          refine ev_goto 6 dX8_between_63 (by decide) ?_
          exact ev_weak (by exact And.intro rfl (And.intro rfl (And.intro rfl (And.intro rfl (And.intro rfl (And.intro rfl (trivial))))))) (ih _ _ _ _ _ _ h)
        · replace h := bv_ff c3 h
          refine ev_iconst (1 : Int32) dX8_between_49 (by decide) ?_
          refine ev_iload dX8_between_50 rfl ?_
          refine ev_ishl dX8_between_52 ?_
          refine ev_goto 57 dX8_between_53 (by decide) ?_
          refine ev_ior dX8_between_57 ?_
          refine ev_istore dX8_between_58 rfl rfl ?_
          refine ev_iinc (l5 + 1) dX8_between_60 rfl rfl rfl rfl ?_
          refine ev_goto 6 dX8_between_63 (by decide) ?_
          exact ev_weak (by exact And.intro rfl (And.intro rfl (And.intro rfl (And.intro rfl (And.intro rfl (And.intro rfl (trivial))))))) (ih _ _ _ _ _ _ h)
set_option maxRecDepth 100000 in
set_option maxHeartbeats 4000000 in
theorem we_X8_between   (l1 : Int32) (l2 : Int32) (l3 : Int32) (mi : bv_Mem) (z : Int32) (h : f_X8_between  l1 l2 l3 mi = some z) : bv_Ev MX8_between bv_X0 1 74 74 (bv_QP z mi) 0 [some (.ref 61), some (.int l1), some (.int l2), some (.int l3), none, none] [] 74 (bv_mr mi) mi := by
  unfold f_X8_between at h
  refine ev_iconst (0 : Int32) dX8_between_0 (by decide) ?_
  refine ev_istore dX8_between_1 rfl rfl ?_
  refine ev_iconst (0 : Int32) dX8_between_3 (by decide) ?_
  refine ev_istore dX8_between_4 rfl rfl ?_
  exact ev_weak (by exact And.intro rfl (And.intro rfl (And.intro rfl (And.intro rfl (And.intro rfl (And.intro rfl (trivial))))))) (wb_X8_between_6 mi 400 _ _ _ _ _ _ h)
theorem wm_X8_between   (l1 : Int32) (l2 : Int32) (l3 : Int32) (mi : bv_Mem) (z : Int32) (h : f_X8_between  l1 l2 l3 mi = some z) : bv_Met yX8_between MX8_between bv_X0 1 74 74 [.ref 61, .int l1, .int l2, .int l3] (bv_mr mi) mi (bv_QP z mi) :=
  bv_Met.of (pn_X 8 (by decide)) rfl (fun q => absurd q Bool.false_ne_true) (Nat.le_of_ble_eq_true rfl) (we_X8_between   l1 l2 l3 mi z h)
set_option maxRecDepth 100000 in
set_option maxHeartbeats 4000000 in
theorem we_X8_leftIn   (l1 : Int32) (mi : bv_Mem) (z : Int32) (h : f_X8_leftIn  l1 mi = some z) : bv_Ev MX8_leftIn bv_X0 2 74 74 (bv_QP z mi) 0 [some (.ref 61), some (.int l1)] [] 74 (bv_mr mi) mi := by
  unfold f_X8_leftIn at h
  refine ev_aload_n dX8_leftIn_0 rfl ?_
  refine ev_iload_n dX8_leftIn_1 rfl ?_
  refine ev_iconst (5 : Int32) dX8_leftIn_2 (by decide) ?_
  obtain ⟨z1, hz1, h⟩ := bv_bd h
  refine er_VP [.int _, .int _] (fun _ _ q => q) lk_X8_89 dX8_leftIn_3 rfl rfl rfl rfl rfl (wm_X8_of _ _ _ _ hz1) ?_
  refine ev_iconst (1 : Int32) dX8_leftIn_6 (by decide) ?_
  refine ev_icmp_ne 12 dX8_leftIn_7 (by decide) (fun c1 => ?_) (fun c1 => ?_)
  · replace h := bv_ff c1 h
    refine ev_aload_n dX8_leftIn_12 rfl ?_
    refine ev_iload_n dX8_leftIn_13 rfl ?_
    refine ev_iconst (0 : Int32) dX8_leftIn_14 (by decide) ?_
    obtain ⟨z2, hz2, h⟩ := bv_bd h
    refine er_VP [.int _, .int _] (fun _ _ q => q) lk_X8_89 dX8_leftIn_15 rfl rfl rfl rfl rfl (wm_X8_of _ _ _ _ hz2) ?_
    by_cases c2 : z2 = (1 : Int32)
    · replace h := bv_tt c2 h
      refine ev_tableIn (38) 56 dX8_leftIn_18 (by rw [c2]; decide) (by rw [c2]; decide) (by rw [c2]; decide) (by decide) ?_
      refine ev_aload_n dX8_leftIn_56 rfl ?_
      refine ev_iload_n dX8_leftIn_57 rfl ?_
      refine ev_iconst (3 : Int32) dX8_leftIn_58 (by decide) ?_
      refine ev_bipush (20 : Int32) dX8_leftIn_59 (by decide) ?_
      obtain ⟨z3, hz3, h⟩ := bv_bd h
      refine er_VP [.int _, .int _, .int _] (fun _ _ q => q) lk_X8_92 dX8_leftIn_61 rfl rfl rfl rfl rfl (wm_X8_between _ _ _ _ _ hz3) ?_
      obtain rfl := Option.some.inj h
      exact ev_iret rfl dX8_leftIn_64 ⟨rfl, rfl, rfl⟩
    replace h := bv_ff c2 h
    by_cases c3 : z2 = (2 : Int32)
    · replace h := bv_tt c3 h
      refine ev_tableIn (47) 65 dX8_leftIn_18 (by rw [c3]; decide) (by rw [c3]; decide) (by rw [c3]; decide) (by decide) ?_
      refine ev_aload_n dX8_leftIn_65 rfl ?_
      refine ev_iload_n dX8_leftIn_66 rfl ?_
      refine ev_iconst (3 : Int32) dX8_leftIn_67 (by decide) ?_
      obtain ⟨z4, hz4, h⟩ := bv_bd h
      refine er_VP [.int _, .int _] (fun _ _ q => q) lk_X8_89 dX8_leftIn_68 rfl rfl rfl rfl rfl (wm_X8_of _ _ _ _ hz4) ?_
      refine ev_iconst (1 : Int32) dX8_leftIn_71 (by decide) ?_
      refine ev_aload_n dX8_leftIn_72 rfl ?_
      refine ev_iload_n dX8_leftIn_73 rfl ?_
      refine ev_iconst (1 : Int32) dX8_leftIn_74 (by decide) ?_
      obtain ⟨z5, hz5, h⟩ := bv_bd h
      refine er_VP [.int _, .int _] (fun _ _ q => q) lk_X8_89 dX8_leftIn_75 rfl rfl rfl rfl rfl (wm_X8_of _ _ _ _ hz5) ?_
      refine ev_ishl dX8_leftIn_78 ?_
      refine ev_ior dX8_leftIn_79 ?_
      obtain rfl := Option.some.inj h
      exact ev_iret rfl dX8_leftIn_80 ⟨rfl, rfl, rfl⟩
    replace h := bv_ff c3 h
    by_cases c4 : z2 = (3 : Int32)
    · replace h := bv_tt c4 h
      refine ev_tableIn (63) 81 dX8_leftIn_18 (by rw [c4]; decide) (by rw [c4]; decide) (by rw [c4]; decide) (by decide) ?_
      refine ev_aload_n dX8_leftIn_81 rfl ?_
      refine ev_iload_n dX8_leftIn_82 rfl ?_
      refine ev_iconst (0 : Int32) dX8_leftIn_83 (by decide) ?_
      refine ev_bipush (19 : Int32) dX8_leftIn_84 (by decide) ?_
      refine ev_aload_n dX8_leftIn_86 rfl ?_
      refine ev_iload_n dX8_leftIn_87 rfl ?_
      refine ev_iconst (4 : Int32) dX8_leftIn_88 (by decide) ?_
      obtain ⟨z6, hz6, h⟩ := bv_bd h
      refine er_VP [.int _, .int _] (fun _ _ q => q) lk_X8_89 dX8_leftIn_89 rfl rfl rfl rfl rfl (wm_X8_of _ _ _ _ hz6) ?_
      refine ev_isub dX8_leftIn_92 ?_
      obtain ⟨z7, hz7, h⟩ := bv_bd h
      refine er_VP [.int _, .int _, .int _] (fun _ _ q => q) lk_X8_92 dX8_leftIn_93 rfl rfl rfl rfl rfl (wm_X8_between _ _ _ _ _ hz7) ?_
      obtain rfl := Option.some.inj h
      exact ev_iret rfl dX8_leftIn_96 ⟨rfl, rfl, rfl⟩
    replace h := bv_ff c4 h
    by_cases c5 : z2 = (4 : Int32)
    · replace h := bv_tt c5 h
      refine ev_tableIn (38) 56 dX8_leftIn_18 (by rw [c5]; decide) (by rw [c5]; decide) (by rw [c5]; decide) (by decide) ?_
      refine ev_aload_n dX8_leftIn_56 rfl ?_
      refine ev_iload_n dX8_leftIn_57 rfl ?_
      refine ev_iconst (3 : Int32) dX8_leftIn_58 (by decide) ?_
      refine ev_bipush (20 : Int32) dX8_leftIn_59 (by decide) ?_
      obtain ⟨z8, hz8, h⟩ := bv_bd h
      refine er_VP [.int _, .int _, .int _] (fun _ _ q => q) lk_X8_92 dX8_leftIn_61 rfl rfl rfl rfl rfl (wm_X8_between _ _ _ _ _ hz8) ?_
      obtain rfl := Option.some.inj h
      exact ev_iret rfl dX8_leftIn_64 ⟨rfl, rfl, rfl⟩
    replace h := bv_ff c5 h
    by_cases c6 : z2 = (5 : Int32)
    · replace h := bv_tt c6 h
      refine ev_tableIn (47) 65 dX8_leftIn_18 (by rw [c6]; decide) (by rw [c6]; decide) (by rw [c6]; decide) (by decide) ?_
      refine ev_aload_n dX8_leftIn_65 rfl ?_
      refine ev_iload_n dX8_leftIn_66 rfl ?_
      refine ev_iconst (3 : Int32) dX8_leftIn_67 (by decide) ?_
      obtain ⟨z9, hz9, h⟩ := bv_bd h
      refine er_VP [.int _, .int _] (fun _ _ q => q) lk_X8_89 dX8_leftIn_68 rfl rfl rfl rfl rfl (wm_X8_of _ _ _ _ hz9) ?_
      refine ev_iconst (1 : Int32) dX8_leftIn_71 (by decide) ?_
      refine ev_aload_n dX8_leftIn_72 rfl ?_
      refine ev_iload_n dX8_leftIn_73 rfl ?_
      refine ev_iconst (1 : Int32) dX8_leftIn_74 (by decide) ?_
      obtain ⟨z10, hz10, h⟩ := bv_bd h
      refine er_VP [.int _, .int _] (fun _ _ q => q) lk_X8_89 dX8_leftIn_75 rfl rfl rfl rfl rfl (wm_X8_of _ _ _ _ hz10) ?_
      refine ev_ishl dX8_leftIn_78 ?_
      refine ev_ior dX8_leftIn_79 ?_
      obtain rfl := Option.some.inj h
      exact ev_iret rfl dX8_leftIn_80 ⟨rfl, rfl, rfl⟩
    replace h := bv_ff c6 h
    by_cases c7 : z2 = (6 : Int32)
    · replace h := bv_tt c7 h
      refine ev_tableIn (79) 97 dX8_leftIn_18 (by rw [c7]; decide) (by rw [c7]; decide) (by rw [c7]; decide) (by decide) ?_
      refine ev_aload_n dX8_leftIn_97 rfl ?_
      refine ev_iload_n dX8_leftIn_98 rfl ?_
      refine ev_iconst (0 : Int32) dX8_leftIn_99 (by decide) ?_
      refine ev_bipush (19 : Int32) dX8_leftIn_100 (by decide) ?_
      refine ev_aload_n dX8_leftIn_102 rfl ?_
      refine ev_iload_n dX8_leftIn_103 rfl ?_
      refine ev_iconst (4 : Int32) dX8_leftIn_104 (by decide) ?_
      obtain ⟨z11, hz11, h⟩ := bv_bd h
      refine er_VP [.int _, .int _] (fun _ _ q => q) lk_X8_89 dX8_leftIn_105 rfl rfl rfl rfl rfl (wm_X8_of _ _ _ _ hz11) ?_
      refine ev_iconst (2 : Int32) dX8_leftIn_108 (by decide) ?_
      refine ev_idiv dX8_leftIn_109 (by decide) ?_
      refine ev_isub dX8_leftIn_110 ?_
      obtain ⟨z12, hz12, h⟩ := bv_bd h
      refine er_VP [.int _, .int _, .int _] (fun _ _ q => q) lk_X8_92 dX8_leftIn_111 rfl rfl rfl rfl rfl (wm_X8_between _ _ _ _ _ hz12) ?_
      obtain rfl := Option.some.inj h
      exact ev_iret rfl dX8_leftIn_114 ⟨rfl, rfl, rfl⟩
    replace h := bv_ff c7 h
    refine ev_tableOut 115 dX8_leftIn_18 (bv_sw 6 (by decide) (fun j hj => by match j, hj with | 0, _ => exact c2 | 1, _ => exact c3 | 2, _ => exact c4 | 3, _ => exact c5 | 4, _ => exact c6 | 5, _ => exact c7 | j + 6, hj => exact absurd hj (by omega))) (by decide) ?_
    refine ev_aload_n dX8_leftIn_115 rfl ?_
    refine ev_iload_n dX8_leftIn_116 rfl ?_
    refine ev_iconst (3 : Int32) dX8_leftIn_117 (by decide) ?_
    obtain ⟨z13, hz13, h⟩ := bv_bd h
    refine er_VP [.int _, .int _] (fun _ _ q => q) lk_X8_89 dX8_leftIn_118 rfl rfl rfl rfl rfl (wm_X8_of _ _ _ _ hz13) ?_
    obtain rfl := Option.some.inj h
    exact ev_iret rfl dX8_leftIn_121 ⟨rfl, rfl, rfl⟩
  · replace h := bv_tt c1 h
    refine ev_iconst (0 : Int32) dX8_leftIn_10 (by decide) ?_
    obtain rfl := Option.some.inj h
    exact ev_iret rfl dX8_leftIn_11 ⟨rfl, rfl, rfl⟩
theorem wm_X8_leftIn   (l1 : Int32) (mi : bv_Mem) (z : Int32) (h : f_X8_leftIn  l1 mi = some z) : bv_Met yX8_leftIn MX8_leftIn bv_X0 2 74 74 [.ref 61, .int l1] (bv_mr mi) mi (bv_QP z mi) :=
  bv_Met.of (pn_X 8 (by decide)) rfl (fun q => absurd q Bool.false_ne_true) (Nat.le_of_ble_eq_true rfl) (we_X8_leftIn   l1 mi z h)
