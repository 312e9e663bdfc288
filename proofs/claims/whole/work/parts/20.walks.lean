set_option maxRecDepth 100000 in
set_option maxHeartbeats 4000000 in
theorem wb_X0_leagues_9 (mi : bv_Mem) : ∀ (fu : Nat) (l0 : Nat) (l1 : Int32) (l2 : Int32) (l3 : Int32) (z : Int32), b_X0_leagues_9 mi fu l0 l1 l2 l3 = some z → bv_Ev MX0_leagues bv_X0 3 74 74 (bv_QP z mi) 9 [some (.ref l0), some (.int l1), some (.int l2), some (.int l3)] [] 74 (bv_mr mi) mi := by
  intro fu
  induction fu with
  | zero =>
    intro l0 l1 l2 l3 z h
    rw [b_X0_leagues_9] at h
    cases h
  | succ fu ih =>
    intro l0 l1 l2 l3 z h
    rw [b_X0_leagues_9] at h
    refine ev_iload_n dX0_leagues_9 rfl ?_
    refine ev_bipush (20 : Int32) dX0_leagues_10 (by decide) ?_
    refine ev_icmp_ge 43 dX0_leagues_12 (by decide) (fun c1 => ?_) (fun c1 => ?_)
    · replace h := bv_tt c1 h
      refine ev_iload_n dX0_leagues_43 rfl ?_
      obtain rfl := Option.some.inj h
      exact ev_iret rfl dX0_leagues_44 ⟨rfl, rfl, rfl⟩
    · replace h := bv_ff c1 h
      refine ev_iload_n dX0_leagues_15 rfl ?_
      refine ev_iload_n dX0_leagues_16 rfl ?_
      refine ev_ishr dX0_leagues_17 ?_
      refine ev_iconst (1 : Int32) dX0_leagues_18 (by decide) ?_
      refine ev_iand dX0_leagues_19 ?_
      refine ev_if_eq 37 dX0_leagues_20 (by decide) (fun c2 => ?_) (fun c2 => ?_)
      · replace h := bv_tt c2 h
        refine ev_iinc (l3 + 1) dX0_leagues_37 rfl rfl rfl rfl ?_
        refine ev_goto 9 dX0_leagues_40 (by decide) ?_
        exact ev_weak (by exact And.intro rfl (And.intro rfl (And.intro rfl (And.intro rfl (trivial))))) (ih _ _ _ _ _ h)
      · replace h := bv_ff c2 h
        refine ev_iload_n dX0_leagues_23 rfl ?_
        refine ev_iload_n dX0_leagues_24 rfl ?_
        refine ev_aload_n dX0_leagues_25 rfl ?_
        obtain ⟨g1, h⟩ := bv_gd h
        refine ev_getI lf_X0_15 dX0_leagues_26 g1 rfl ?_
        refine ev_isub dX0_leagues_29 ?_
        refine er_abs dX0_leagues_30 lm_X0_43 rfl rfl ?_
        refine er_max dX0_leagues_33 lm_X0_57 rfl rfl ?_
        refine ev_istore_n dX0_leagues_36 rfl rfl ?_
        refine ev_iinc (l3 + 1) dX0_leagues_37 rfl rfl rfl rfl ?_
        refine ev_goto 9 dX0_leagues_40 (by decide) ?_
        exact ev_weak (by exact And.intro rfl (And.intro rfl (And.intro rfl (And.intro rfl (trivial))))) (ih _ _ _ _ _ h)
set_option maxRecDepth 100000 in
set_option maxHeartbeats 4000000 in
theorem we_X0_leagues   (l0 : Nat) (mi : bv_Mem) (z : Int32) (h : f_X0_leagues  l0 mi = some z) : bv_Ev MX0_leagues bv_X0 3 74 74 (bv_QP z mi) 0 [some (.ref l0), none, none, none] [] 74 (bv_mr mi) mi := by
  unfold f_X0_leagues at h
  refine ev_aload_n dX0_leagues_0 rfl ?_
  obtain ⟨g1, h⟩ := bv_gd h
  obtain ⟨z1, hz1, h⟩ := bv_bd h
  refine er_VP [] (fun _ _ q => q) lk_X0_53 dX0_leagues_1 rfl rfl g1 rfl rfl (wm_X0_left _ _ _ hz1) ?_
  refine ev_istore_n dX0_leagues_4 rfl rfl ?_
  refine ev_iconst (0 : Int32) dX0_leagues_5 (by decide) ?_
  refine ev_istore_n dX0_leagues_6 rfl rfl ?_
  refine ev_iconst (0 : Int32) dX0_leagues_7 (by decide) ?_
  refine ev_istore_n dX0_leagues_8 rfl rfl ?_
  exact ev_weak (by exact And.intro rfl (And.intro rfl (And.intro rfl (And.intro rfl (trivial))))) (wb_X0_leagues_9 mi 400 _ _ _ _ _ h)
theorem wm_X0_leagues   (l0 : Nat) (mi : bv_Mem) (z : Int32) (h : f_X0_leagues  l0 mi = some z) : bv_Met yX0_leagues MX0_leagues bv_X0 3 74 74 [.ref l0] (bv_mr mi) mi (bv_QP z mi) :=
  bv_Met.of (pn_X 0 (by decide)) rfl (fun q => absurd q Bool.false_ne_true) (Nat.le_of_ble_eq_true rfl) (we_X0_leagues   l0 mi z h)
set_option maxRecDepth 100000 in
set_option maxHeartbeats 4000000 in
theorem we_X0_priceBy   (l0 : Nat) (l1 : Int32) (mi : bv_Mem) (z : Int32) (h : f_X0_priceBy  l0 l1 mi = some z) : bv_Ev MX0_priceBy bv_X0 1 74 74 (bv_QP z mi) 0 [some (.ref l0), some (.int l1)] [] 74 (bv_mr mi) mi := by
  unfold f_X0_priceBy at h
  refine ev_aload_n dX0_priceBy_0 rfl ?_
  obtain ⟨g1, h⟩ := bv_gd h
  refine ev_getI lf_X0_29 dX0_priceBy_1 g1 rfl ?_
  by_cases c1 : (mi l0 0) = (1 : Int32)
  · replace h := bv_tt c1 h
    refine ev_tableIn (40) 44 dX0_priceBy_4 (by rw [c1]; decide) (by rw [c1]; decide) (by rw [c1]; decide) (by decide) ?_
    refine ev_iconst (2 : Int32) dX0_priceBy_44 (by decide) ?_
    refine ev_iload_n dX0_priceBy_45 rfl ?_
    refine ev_imul dX0_priceBy_46 ?_
    obtain rfl := Option.some.inj h
    exact ev_iret rfl dX0_priceBy_47 ⟨rfl, rfl, rfl⟩
  replace h := bv_ff c1 h
  by_cases c2 : (mi l0 0) = (2 : Int32)
  · replace h := bv_tt c2 h
    refine ev_tableIn (55) 59 dX0_priceBy_4 (by rw [c2]; decide) (by rw [c2]; decide) (by rw [c2]; decide) (by decide) ?_
    refine ev_iload_n dX0_priceBy_59 rfl ?_
    refine ev_iconst (2 : Int32) dX0_priceBy_60 (by decide) ?_
    refine ev_idiv dX0_priceBy_61 (by decide) ?_
    obtain rfl := Option.some.inj h
    exact ev_iret rfl dX0_priceBy_62 ⟨rfl, rfl, rfl⟩
  replace h := bv_ff c2 h
  by_cases c3 : (mi l0 0) = (3 : Int32)
  · replace h := bv_tt c3 h
    refine ev_tableIn (61) 65 dX0_priceBy_4 (by rw [c3]; decide) (by rw [c3]; decide) (by rw [c3]; decide) (by decide) ?_
    refine ev_iload_n dX0_priceBy_65 rfl ?_
    refine ev_aload_n dX0_priceBy_66 rfl ?_
    refine ev_getI lf_X0_22 dX0_priceBy_67 g1 rfl ?_
    refine ev_iadd dX0_priceBy_70 ?_
    obtain rfl := Option.some.inj h
    exact ev_iret rfl dX0_priceBy_71 ⟨rfl, rfl, rfl⟩
  replace h := bv_ff c3 h
  by_cases c4 : (mi l0 0) = (4 : Int32)
  · replace h := bv_tt c4 h
    refine ev_tableIn (44) 48 dX0_priceBy_4 (by rw [c4]; decide) (by rw [c4]; decide) (by rw [c4]; decide) (by decide) ?_
    refine ev_iconst (2 : Int32) dX0_priceBy_48 (by decide) ?_
    refine ev_iload_n dX0_priceBy_49 rfl ?_
    refine ev_imul dX0_priceBy_50 ?_
    refine ev_iconst (5 : Int32) dX0_priceBy_51 (by decide) ?_
    refine ev_aload_n dX0_priceBy_52 rfl ?_
    refine ev_getI lf_X0_32 dX0_priceBy_53 g1 rfl ?_
    refine ev_imul dX0_priceBy_56 ?_
    refine ev_iadd dX0_priceBy_57 ?_
    obtain rfl := Option.some.inj h
    exact ev_iret rfl dX0_priceBy_58 ⟨rfl, rfl, rfl⟩
  replace h := bv_ff c4 h
  by_cases c5 : (mi l0 0) = (5 : Int32)
  · replace h := bv_tt c5 h
    refine ev_tableIn (59) 63 dX0_priceBy_4 (by rw [c5]; decide) (by rw [c5]; decide) (by rw [c5]; decide) (by decide) ?_
    refine ev_iconst (1 : Int32) dX0_priceBy_63 (by decide) ?_
    obtain rfl := Option.some.inj h
    exact ev_iret rfl dX0_priceBy_64 ⟨rfl, rfl, rfl⟩
  replace h := bv_ff c5 h
  by_cases c6 : (mi l0 0) = (6 : Int32)
  · replace h := bv_tt c6 h
    refine ev_tableIn (68) 72 dX0_priceBy_4 (by rw [c6]; decide) (by rw [c6]; decide) (by rw [c6]; decide) (by decide) ?_
    refine ev_iload_n dX0_priceBy_72 rfl ?_
    refine ev_aload_n dX0_priceBy_73 rfl ?_
    refine ev_getI lf_X0_22 dX0_priceBy_74 g1 rfl ?_
    refine ev_iadd dX0_priceBy_77 ?_
    refine ev_aload_n dX0_priceBy_78 rfl ?_
    refine ev_getI lf_X0_22 dX0_priceBy_79 g1 rfl ?_
    refine ev_aload_n dX0_priceBy_82 rfl ?_
    refine ev_getI lf_X0_32 dX0_priceBy_83 g1 rfl ?_
    refine ev_iconst (1 : Int32) dX0_priceBy_86 (by decide) ?_
    refine ev_iadd dX0_priceBy_87 ?_
    obtain ⟨z1, hz1, h⟩ := bv_bd h
    refine er_SNP [.int _, .int _] (fun _ _ q => q) lk_X0_60 dX0_priceBy_88 rfl rfl rfl rfl (wm_X7_quotient _ _ _ _ hz1) ?_
    refine ev_iadd dX0_priceBy_91 ?_
    obtain rfl := Option.some.inj h
    exact ev_iret rfl dX0_priceBy_92 ⟨rfl, rfl, rfl⟩
  replace h := bv_ff c6 h
  refine ev_tableOut 93 dX0_priceBy_4 (bv_sw 6 (by decide) (fun j hj => by match j, hj with | 0, _ => exact c1 | 1, _ => exact c2 | 2, _ => exact c3 | 3, _ => exact c4 | 4, _ => exact c5 | 5, _ => exact c6 | j + 6, hj => exact absurd hj (by omega))) (by decide) ?_
  refine ev_iload_n dX0_priceBy_93 rfl ?_
  obtain rfl := Option.some.inj h
  exact ev_iret rfl dX0_priceBy_94 ⟨rfl, rfl, rfl⟩
theorem wm_X0_priceBy   (l0 : Nat) (l1 : Int32) (mi : bv_Mem) (z : Int32) (h : f_X0_priceBy  l0 l1 mi = some z) : bv_Met yX0_priceBy MX0_priceBy bv_X0 1 74 74 [.ref l0, .int l1] (bv_mr mi) mi (bv_QP z mi) :=
  bv_Met.of (pn_X 0 (by decide)) rfl (fun q => absurd q Bool.false_ne_true) (Nat.le_of_ble_eq_true rfl) (we_X0_priceBy   l0 l1 mi z h)
set_option maxRecDepth 100000 in
set_option maxHeartbeats 4000000 in
theorem we_X7_priceOf   (l1 : Nat) (mi : bv_Mem) (z : Int32 × bv_Mem) (h : f_X7_priceOf  l1 mi = some z) : bv_Ev MX7_priceOf bv_X0 65 74 74 (bv_QI z) 0 [some (.ref 0), some (.ref l1), none] [] 74 (bv_mr mi) mi := by
  unfold f_X7_priceOf at h
  refine ev_aload_n dX7_priceOf_0 rfl ?_
  refine ev_iconst (1 : Int32) dX7_priceOf_1 (by decide) ?_
  refine ev_aload_n dX7_priceOf_2 rfl ?_
  obtain ⟨g1, h⟩ := bv_gd h
  obtain ⟨z1, hz1, h⟩ := bv_bd h
  refine er_VP [] (fun _ _ q => q) lk_X7_158 dX7_priceOf_3 rfl rfl g1 rfl rfl (wm_X0_left _ _ _ hz1) ?_
  obtain ⟨z2, hz2, h⟩ := bv_bd h
  refine er_SP [.int _] (fun _ _ q => q) lk_X7_89 dX7_priceOf_6 rfl rfl rfl rfl (wm_J6_bitCount_0f7a4 _ _ _ hz2) ?_
  refine ev_aload_n dX7_priceOf_9 rfl ?_
  obtain ⟨z3, hz3, h⟩ := bv_bd h
  refine er_VP [] (fun _ _ q => q) lk_X7_162 dX7_priceOf_10 rfl rfl g1 rfl rfl (wm_X0_leagues _ _ _ hz3) ?_
  refine ev_aload_n dX7_priceOf_13 rfl ?_
  refine ev_getI lf_X7_147 dX7_priceOf_14 g1 rfl ?_
  obtain ⟨z4, hz4, h⟩ := bv_bd h
  refine er_VI [.int _, .int _, .int _, .int _] (fun _ _ q => q) lk_X7_206 dX7_priceOf_17 rfl rfl rfl rfl rfl (wm_X7_lawGives _ _ _ _ _ _ hz4) ?_
  refine ev_istore_n dX7_priceOf_20 rfl rfl ?_
  refine ev_aload_n dX7_priceOf_21 rfl ?_
  refine ev_iload_n dX7_priceOf_22 rfl ?_
  obtain ⟨z5, hz5, h⟩ := bv_bd h
  refine er_VP [.int _] (fun _ _ q => q) lk_X7_318 dX7_priceOf_23 rfl rfl g1 rfl rfl (wm_X0_priceBy _ _ _ _ hz5) ?_
  obtain rfl := Option.some.inj h
  exact ev_iret rfl dX7_priceOf_26 ⟨rfl, rfl, rfl⟩
theorem wm_X7_priceOf   (l1 : Nat) (mi : bv_Mem) (z : Int32 × bv_Mem) (h : f_X7_priceOf  l1 mi = some z) : bv_Met yX7_priceOf MX7_priceOf bv_X0 65 74 74 [.ref 0, .ref l1] (bv_mr mi) mi (bv_QI z) :=
  bv_Met.of (pn_X 7 (by decide)) rfl (fun q => absurd q Bool.false_ne_true) (Nat.le_of_ble_eq_true rfl) (we_X7_priceOf   l1 mi z h)
set_option maxRecDepth 100000 in
set_option maxHeartbeats 4000000 in
theorem we_X7_ofBottle   (l1 : Int32) (l2 : Int32) (mi : bv_Mem) (z : Int32 × bv_Mem) (h : f_X7_ofBottle  l1 l2 mi = some z) : bv_Ev MX7_ofBottle bv_X0 66 74 74 (bv_QI z) 0 [some (.ref 0), some (.int l1), some (.int l2), none] [] 74 (bv_mr mi) mi := by
  unfold f_X7_ofBottle at h
  refine ev_aload_n dX7_ofBottle_0 rfl ?_
  refine ev_iload_n dX7_ofBottle_1 rfl ?_
  obtain ⟨z1, hz1, h⟩ := bv_bd h
  refine er_VP [.int _] (fun _ _ q => q) lk_X7_132 dX7_ofBottle_2 rfl rfl rfl rfl rfl (wm_X7_isBottle _ _ _ hz1) ?_
  refine ev_if_eq 18 dX7_ofBottle_5 (by decide) (fun c1 => ?_) (fun c1 => ?_)
  · replace h := bv_tt c1 h
    refine ev_aload_n dX7_ofBottle_18 rfl ?_
    refine ev_iconst (1 : Int32) dX7_ofBottle_19 (by decide) ?_
    obtain ⟨z2, hz2, h⟩ := bv_bd h
    refine er_VI [.int _] (fun _ _ q => q) lk_X7_62 dX7_ofBottle_20 rfl rfl rfl rfl rfl (wm_X7_error _ _ _ hz2) ?_
    obtain rfl := Option.some.inj h
    exact ev_iret rfl dX7_ofBottle_23 ⟨rfl, rfl, rfl⟩
  · replace h := bv_ff c1 h
    refine ev_iload_n dX7_ofBottle_8 rfl ?_
    refine ev_iconst (0 : Int32) dX7_ofBottle_9 (by decide) ?_
    refine ev_bipush (8 : Int32) dX7_ofBottle_10 (by decide) ?_
    obtain ⟨z3, hz3, h⟩ := bv_bd h
    refine er_SP [.int _, .int _, .int _] (fun _ _ q => q) lk_X7_58 dX7_ofBottle_12 rfl rfl rfl rfl (wm_X7_isWithin _ _ _ _ _ hz3) ?_
    refine ev_if_ne 24 dX7_ofBottle_15 (by decide) (fun c2 => ?_) (fun c2 => ?_)
    · replace h := bv_ff c2 h
      refine ev_aload_n dX7_ofBottle_24 rfl ?_
      refine ev_getR 1 lf_X7_10 dX7_ofBottle_25 rfl rfl rfl ?_
      refine ev_getR 6 lf_X7_122 dX7_ofBottle_28 rfl rfl rfl ?_
      refine ev_iload_n dX7_ofBottle_31 rfl ?_
      obtain ⟨g1, h⟩ := bv_gd h
      obtain ⟨q1, hq1, h⟩ := bv_bd h
      refine er_aald (N := 8) q1 dX7_ofBottle_32 rfl g1 hq1 ?_
      refine ev_astore_n dX7_ofBottle_33 rfl rfl ?_
      refine ev_iload_n dX7_ofBottle_34 rfl ?_
      by_cases c3 : l2 = (0 : Int32)
      · replace h := bv_tt c3 h
        refine ev_tableIn (45) 80 dX7_ofBottle_35 (by rw [c3]; decide) (by rw [c3]; decide) (by rw [c3]; decide) (by decide) ?_
        refine ev_aload_n dX7_ofBottle_80 rfl ?_
        obtain ⟨g2, h⟩ := bv_gd h
        refine ev_getI lf_X7_135 dX7_ofBottle_81 g2 rfl ?_
        obtain rfl := Option.some.inj h
        exact ev_iret rfl dX7_ofBottle_84 ⟨rfl, rfl, rfl⟩
      replace h := bv_ff c3 h
      by_cases c4 : l2 = (1 : Int32)
      · replace h := bv_tt c4 h
        refine ev_tableIn (50) 85 dX7_ofBottle_35 (by rw [c4]; decide) (by rw [c4]; decide) (by rw [c4]; decide) (by decide) ?_
        refine ev_aload_n dX7_ofBottle_85 rfl ?_
        obtain ⟨g3, h⟩ := bv_gd h
        refine ev_getI lf_X7_138 dX7_ofBottle_86 g3 rfl ?_
        obtain rfl := Option.some.inj h
        exact ev_iret rfl dX7_ofBottle_89 ⟨rfl, rfl, rfl⟩
      replace h := bv_ff c4 h
      by_cases c5 : l2 = (2 : Int32)
      · replace h := bv_tt c5 h
        refine ev_tableIn (55) 90 dX7_ofBottle_35 (by rw [c5]; decide) (by rw [c5]; decide) (by rw [c5]; decide) (by decide) ?_
        refine ev_aload_n dX7_ofBottle_90 rfl ?_
        obtain ⟨g4, h⟩ := bv_gd h
        refine ev_getI lf_X7_141 dX7_ofBottle_91 g4 rfl ?_
        obtain rfl := Option.some.inj h
        exact ev_iret rfl dX7_ofBottle_94 ⟨rfl, rfl, rfl⟩
      replace h := bv_ff c5 h
      by_cases c6 : l2 = (3 : Int32)
      · replace h := bv_tt c6 h
        refine ev_tableIn (60) 95 dX7_ofBottle_35 (by rw [c6]; decide) (by rw [c6]; decide) (by rw [c6]; decide) (by decide) ?_
        refine ev_aload_n dX7_ofBottle_95 rfl ?_
        obtain ⟨g5, h⟩ := bv_gd h
        refine ev_getI lf_X7_144 dX7_ofBottle_96 g5 rfl ?_
        obtain rfl := Option.some.inj h
        exact ev_iret rfl dX7_ofBottle_99 ⟨rfl, rfl, rfl⟩
      replace h := bv_ff c6 h
      by_cases c7 : l2 = (4 : Int32)
      · replace h := bv_tt c7 h
        refine ev_tableIn (65) 100 dX7_ofBottle_35 (by rw [c7]; decide) (by rw [c7]; decide) (by rw [c7]; decide) (by decide) ?_
        refine ev_aload_n dX7_ofBottle_100 rfl ?_
        obtain ⟨g6, h⟩ := bv_gd h
        refine ev_getI lf_X7_147 dX7_ofBottle_101 g6 rfl ?_
        obtain rfl := Option.some.inj h
        exact ev_iret rfl dX7_ofBottle_104 ⟨rfl, rfl, rfl⟩
      replace h := bv_ff c7 h
      by_cases c8 : l2 = (5 : Int32)
      · replace h := bv_tt c8 h
        refine ev_tableIn (70) 105 dX7_ofBottle_35 (by rw [c8]; decide) (by rw [c8]; decide) (by rw [c8]; decide) (by decide) ?_
        refine ev_aload_n dX7_ofBottle_105 rfl ?_
        obtain ⟨g7, h⟩ := bv_gd h
        refine ev_getI lf_X7_150 dX7_ofBottle_106 g7 rfl ?_
        obtain ⟨z4, hz4, h⟩ := bv_bd h
        refine er_SP [.int _] (fun _ _ q => q) lk_X7_154 dX7_ofBottle_109 rfl rfl rfl rfl (wm_X7_oneIf _ _ _ hz4) ?_
        obtain rfl := Option.some.inj h
        exact ev_iret rfl dX7_ofBottle_112 ⟨rfl, rfl, rfl⟩
      replace h := bv_ff c8 h
      by_cases c9 : l2 = (6 : Int32)
      · replace h := bv_tt c9 h
        refine ev_tableIn (78) 113 dX7_ofBottle_35 (by rw [c9]; decide) (by rw [c9]; decide) (by rw [c9]; decide) (by decide) ?_
        refine ev_aload_n dX7_ofBottle_113 rfl ?_
        obtain ⟨g8, h⟩ := bv_gd h
        obtain ⟨z5, hz5, h⟩ := bv_bd h
        refine er_VP [] (fun _ _ q => q) lk_X7_158 dX7_ofBottle_114 rfl rfl g8 rfl rfl (wm_X0_left _ _ _ hz5) ?_
        obtain rfl := Option.some.inj h
        exact ev_iret rfl dX7_ofBottle_117 ⟨rfl, rfl, rfl⟩
      replace h := bv_ff c9 h
      by_cases c10 : l2 = (7 : Int32)
      · replace h := bv_tt c10 h
        refine ev_tableIn (83) 118 dX7_ofBottle_35 (by rw [c10]; decide) (by rw [c10]; decide) (by rw [c10]; decide) (by decide) ?_
        refine ev_aload_n dX7_ofBottle_118 rfl ?_
        obtain ⟨g9, h⟩ := bv_gd h
        obtain ⟨z6, hz6, h⟩ := bv_bd h
        refine er_VP [] (fun _ _ q => q) lk_X7_162 dX7_ofBottle_119 rfl rfl g9 rfl rfl (wm_X0_leagues _ _ _ hz6) ?_
        obtain rfl := Option.some.inj h
        exact ev_iret rfl dX7_ofBottle_122 ⟨rfl, rfl, rfl⟩
      replace h := bv_ff c10 h
      refine ev_tableOut 123 dX7_ofBottle_35 (bv_sw 8 (by decide) (fun j hj => by match j, hj with | 0, _ => exact c3 | 1, _ => exact c4 | 2, _ => exact c5 | 3, _ => exact c6 | 4, _ => exact c7 | 5, _ => exact c8 | 6, _ => exact c9 | 7, _ => exact c10 | j + 8, hj => exact absurd hj (by omega))) (by decide) ?_
      refine ev_aload_n dX7_ofBottle_123 rfl ?_
      refine ev_aload_n dX7_ofBottle_124 rfl ?_
      obtain ⟨z7, hz7, h⟩ := bv_bd h
      refine er_VI [.ref _] (fun _ _ q => q) lk_X7_165 dX7_ofBottle_125 rfl rfl rfl rfl rfl (wm_X7_priceOf _ _ _ hz7) ?_
      obtain rfl := Option.some.inj h
      exact ev_iret rfl dX7_ofBottle_128 ⟨rfl, rfl, rfl⟩
    · replace h := bv_tt c2 h
      refine ev_aload_n dX7_ofBottle_18 rfl ?_
      refine ev_iconst (1 : Int32) dX7_ofBottle_19 (by decide) ?_
      obtain ⟨z8, hz8, h⟩ := bv_bd h
      refine er_VI [.int _] (fun _ _ q => q) lk_X7_62 dX7_ofBottle_20 rfl rfl rfl rfl rfl (wm_X7_error _ _ _ hz8) ?_
      obtain rfl := Option.some.inj h
      exact ev_iret rfl dX7_ofBottle_23 ⟨rfl, rfl, rfl⟩
theorem wm_X7_ofBottle   (l1 : Int32) (l2 : Int32) (mi : bv_Mem) (z : Int32 × bv_Mem) (h : f_X7_ofBottle  l1 l2 mi = some z) : bv_Met yX7_ofBottle MX7_ofBottle bv_X0 66 74 74 [.ref 0, .int l1, .int l2] (bv_mr mi) mi (bv_QI z) :=
  bv_Met.of (pn_X 7 (by decide)) rfl (fun q => absurd q Bool.false_ne_true) (Nat.le_of_ble_eq_true rfl) (we_X7_ofBottle   l1 l2 mi z h)
set_option maxRecDepth 100000 in
set_option maxHeartbeats 4000000 in
theorem we_X7_become   (l1 : Int32) (l2 : Int32) (mi : bv_Mem) (z : Int32 × bv_Mem) (h : f_X7_become  l1 l2 mi = some z) : bv_Ev MX7_become bv_X0 2 74 74 (bv_QI z) 0 [some (.ref 0), some (.int l1), some (.int l2), none] [] 74 (bv_mr mi) mi := by
  unfold f_X7_become at h
  refine ev_aload_n dX7_become_0 rfl ?_
  refine ev_iload_n dX7_become_1 rfl ?_
  obtain ⟨z1, hz1, h⟩ := bv_bd h
  refine er_VP [.int _] (fun _ _ q => q) lk_X7_132 dX7_become_2 rfl rfl rfl rfl rfl (wm_X7_isBottle _ _ _ hz1) ?_
  refine ev_if_eq 15 dX7_become_5 (by decide) (fun c1 => ?_) (fun c1 => ?_)
  · replace h := bv_tt c1 h
    refine ev_aload_n dX7_become_15 rfl ?_
    refine ev_iconst (1 : Int32) dX7_become_16 (by decide) ?_
    obtain ⟨z2, hz2, h⟩ := bv_bd h
    refine er_VI [.int _] (fun _ _ q => q) lk_X7_62 dX7_become_17 rfl rfl rfl rfl rfl (wm_X7_error _ _ _ hz2) ?_
    obtain rfl := Option.some.inj h
    exact ev_iret rfl dX7_become_20 ⟨rfl, rfl, rfl⟩
  · replace h := bv_ff c1 h
    refine ev_iload_n dX7_become_8 rfl ?_
    obtain ⟨z3, hz3, h⟩ := bv_bd h
    refine er_SP [.int _] (fun _ _ q => q) lk_X7_106 dX7_become_9 rfl rfl rfl rfl (wm_X7_isKindWithNumber _ _ _ hz3) ?_
    refine ev_if_ne 21 dX7_become_12 (by decide) (fun c2 => ?_) (fun c2 => ?_)
    · replace h := bv_ff c2 h
      refine ev_aload_n dX7_become_21 rfl ?_
      refine ev_getR 1 lf_X7_10 dX7_become_22 rfl rfl rfl ?_
      refine ev_getR 6 lf_X7_122 dX7_become_25 rfl rfl rfl ?_
      refine ev_iload_n dX7_become_28 rfl ?_
      obtain ⟨g1, h⟩ := bv_gd h
      obtain ⟨q1, hq1, h⟩ := bv_bd h
      refine er_aald (N := 8) q1 dX7_become_29 rfl g1 hq1 ?_
      obtain ⟨g2, h⟩ := bv_gd h
      refine ev_getI lf_X7_135 dX7_become_30 g2 rfl ?_
      refine ev_istore_n dX7_become_33 rfl rfl ?_
      refine ev_aload_n dX7_become_34 rfl ?_
      refine ev_getR 1 lf_X7_10 dX7_become_35 rfl rfl rfl ?_
      refine ev_getR 6 lf_X7_122 dX7_become_38 rfl rfl rfl ?_
      refine ev_iload_n dX7_become_41 rfl ?_
      obtain ⟨q2, hq2, h⟩ := bv_bd h
      refine er_aald (N := 8) q2 dX7_become_42 rfl g1 hq2 ?_
      refine ev_iload_n dX7_become_43 rfl ?_
      obtain ⟨g3, h⟩ := bv_gd h
      obtain ⟨z4, hz4, h⟩ := bv_bd h
      refine er_VV [.int _] (fun _ _ q => q) lk_X7_169 dX7_become_44 rfl rfl g3 rfl rfl (wm_X0_turnInto _ _ _ _ hz4) ?_
      refine ev_iload_n dX7_become_47 rfl ?_
      obtain rfl := Option.some.inj h
      exact ev_iret rfl dX7_become_48 ⟨rfl, rfl, rfl⟩
    · replace h := bv_tt c2 h
      refine ev_aload_n dX7_become_15 rfl ?_
      refine ev_iconst (1 : Int32) dX7_become_16 (by decide) ?_
      obtain ⟨z5, hz5, h⟩ := bv_bd h
      refine er_VI [.int _] (fun _ _ q => q) lk_X7_62 dX7_become_17 rfl rfl rfl rfl rfl (wm_X7_error _ _ _ hz5) ?_
      obtain rfl := Option.some.inj h
      exact ev_iret rfl dX7_become_20 ⟨rfl, rfl, rfl⟩
theorem wm_X7_become   (l1 : Int32) (l2 : Int32) (mi : bv_Mem) (z : Int32 × bv_Mem) (h : f_X7_become  l1 l2 mi = some z) : bv_Met yX7_become MX7_become bv_X0 2 74 74 [.ref 0, .int l1, .int l2] (bv_mr mi) mi (bv_QI z) :=
  bv_Met.of (pn_X 7 (by decide)) rfl (fun q => absurd q Bool.false_ne_true) (Nat.le_of_ble_eq_true rfl) (we_X7_become   l1 l2 mi z h)
set_option maxRecDepth 100000 in
set_option maxHeartbeats 4000000 in
theorem wb_X0_isOfKind_7 (mi : bv_Mem) : ∀ (fu : Nat) (l1 : Int32) (l2 : Int32) (l3 : Int32) (z : Int32), b_X0_isOfKind_7 mi fu l1 l2 l3 = some z → bv_Ev MX0_isOfKind bv_X0 0 74 74 (bv_QP z mi) 7 [none, some (.int l1), some (.int l2), some (.int l3)] [] 74 (bv_mr mi) mi := by
  intro fu
  induction fu with
  | zero =>
    intro l1 l2 l3 z h
    rw [b_X0_isOfKind_7] at h
    cases h
  | succ fu ih =>
    intro l1 l2 l3 z h
    rw [b_X0_isOfKind_7] at h
    refine ev_iload_n dX0_isOfKind_7 rfl ?_
    refine ev_iconst (3 : Int32) dX0_isOfKind_8 (by decide) ?_
    refine ev_icmp_ge 31 dX0_isOfKind_9 (by decide) (fun c1 => ?_) (fun c1 => ?_)
    · replace h := bv_tt c1 h
      refine ev_iconst (0 : Int32) dX0_isOfKind_31 (by decide) ?_
      obtain rfl := Option.some.inj h
      exact ev_zret rfl (Or.inl rfl) dX0_isOfKind_32 ⟨rfl, rfl, rfl⟩
    · replace h := bv_ff c1 h
      refine ev_iload_n dX0_isOfKind_12 rfl ?_
      refine ev_iload_n dX0_isOfKind_13 rfl ?_
      refine ev_icmp_ne 19 dX0_isOfKind_14 (by decide) (fun c2 => ?_) (fun c2 => ?_)
      · replace h := bv_ff c2 h
        refine ev_gets (j := 1) dX0_isOfKind_19 (by decide) ls_X0_35 ?_
        refine ev_iload_n dX0_isOfKind_22 rfl ?_
        obtain ⟨g1, h⟩ := bv_gd h
        refine ev_xld (j := 1) (N := 7) (f := bv_x1) dX0_isOfKind_23 rfl g1 ?_
        refine ev_istore_n dX0_isOfKind_24 rfl rfl ?_
        refine ev_iinc (l3 + 1) dX0_isOfKind_25 rfl rfl rfl rfl ?_
        refine ev_goto 7 dX0_isOfKind_28 (by decide) ?_
        exact ev_weak (by exact And.intro rfl (And.intro rfl (And.intro rfl (trivial)))) (ih _ _ _ _ h)
      · replace h := bv_tt c2 h
        refine ev_iconst (1 : Int32) dX0_isOfKind_17 (by decide) ?_
        obtain rfl := Option.some.inj h
        exact ev_zret rfl (Or.inr rfl) dX0_isOfKind_18 ⟨rfl, rfl, rfl⟩
set_option maxRecDepth 100000 in
set_option maxHeartbeats 4000000 in
theorem we_X0_isOfKind   (l0 : Nat) (l1 : Int32) (mi : bv_Mem) (z : Int32) (h : f_X0_isOfKind  l0 l1 mi = some z) : bv_Ev MX0_isOfKind bv_X0 0 74 74 (bv_QP z mi) 0 [some (.ref l0), some (.int l1), none, none] [] 74 (bv_mr mi) mi := by
  unfold f_X0_isOfKind at h
  refine ev_aload_n dX0_isOfKind_0 rfl ?_
  obtain ⟨g1, h⟩ := bv_gd h
  refine ev_getI lf_X0_29 dX0_isOfKind_1 g1 rfl ?_
  refine ev_istore_n dX0_isOfKind_4 rfl rfl ?_
  refine ev_iconst (0 : Int32) dX0_isOfKind_5 (by decide) ?_
  refine ev_istore_n dX0_isOfKind_6 rfl rfl ?_
  exact ev_weak (by exact And.intro rfl (And.intro rfl (And.intro rfl (trivial)))) (wb_X0_isOfKind_7 mi 400 _ _ _ _ h)
theorem wm_X0_isOfKind   (l0 : Nat) (l1 : Int32) (mi : bv_Mem) (z : Int32) (h : f_X0_isOfKind  l0 l1 mi = some z) : bv_Met yX0_isOfKind MX0_isOfKind bv_X0 0 74 74 [.ref l0, .int l1] (bv_mr mi) mi (bv_QP z mi) :=
  bv_Met.of (pn_X 0 (by decide)) rfl (fun q => absurd q Bool.false_ne_true) (Nat.le_of_ble_eq_true rfl) (we_X0_isOfKind   l0 l1 mi z h)
set_option maxRecDepth 100000 in
set_option maxHeartbeats 4000000 in
theorem we_X7_as   (l1 : Int32) (l2 : Int32) (mi : bv_Mem) (z : Int32 × bv_Mem) (h : f_X7_as  l1 l2 mi = some z) : bv_Ev MX7_as bv_X0 2 74 74 (bv_QI z) 0 [some (.ref 0), some (.int l1), some (.int l2)] [] 74 (bv_mr mi) mi := by
  unfold f_X7_as at h
  refine ev_aload_n dX7_as_0 rfl ?_
  refine ev_iload_n dX7_as_1 rfl ?_
  obtain ⟨z1, hz1, h⟩ := bv_bd h
  refine er_VP [.int _] (fun _ _ q => q) lk_X7_132 dX7_as_2 rfl rfl rfl rfl rfl (wm_X7_isBottle _ _ _ hz1) ?_
  refine ev_if_eq 18 dX7_as_5 (by decide) (fun c1 => ?_) (fun c1 => ?_)
  · replace h := bv_tt c1 h
    refine ev_aload_n dX7_as_18 rfl ?_
    refine ev_iconst (1 : Int32) dX7_as_19 (by decide) ?_
    obtain ⟨z2, hz2, h⟩ := bv_bd h
    refine er_VI [.int _] (fun _ _ q => q) lk_X7_62 dX7_as_20 rfl rfl rfl rfl rfl (wm_X7_error _ _ _ hz2) ?_
    obtain rfl := Option.some.inj h
    exact ev_iret rfl dX7_as_23 ⟨rfl, rfl, rfl⟩
  · replace h := bv_ff c1 h
    refine ev_iload_n dX7_as_8 rfl ?_
    refine ev_iconst (0 : Int32) dX7_as_9 (by decide) ?_
    refine ev_bipush (6 : Int32) dX7_as_10 (by decide) ?_
    obtain ⟨z3, hz3, h⟩ := bv_bd h
    refine er_SP [.int _, .int _, .int _] (fun _ _ q => q) lk_X7_58 dX7_as_12 rfl rfl rfl rfl (wm_X7_isWithin _ _ _ _ _ hz3) ?_
    refine ev_if_ne 24 dX7_as_15 (by decide) (fun c2 => ?_) (fun c2 => ?_)
    · replace h := bv_ff c2 h
      refine ev_aload_n dX7_as_24 rfl ?_
      refine ev_getR 1 lf_X7_10 dX7_as_25 rfl rfl rfl ?_
      refine ev_getR 6 lf_X7_122 dX7_as_28 rfl rfl rfl ?_
      refine ev_iload_n dX7_as_31 rfl ?_
      obtain ⟨g1, h⟩ := bv_gd h
      obtain ⟨q1, hq1, h⟩ := bv_bd h
      refine er_aald (N := 8) q1 dX7_as_32 rfl g1 hq1 ?_
      refine ev_iload_n dX7_as_33 rfl ?_
      obtain ⟨g2, h⟩ := bv_gd h
      obtain ⟨z4, hz4, h⟩ := bv_bd h
      refine er_VP [.int _] (fun _ _ q => q) lk_X7_173 dX7_as_34 rfl rfl g2 rfl rfl (wm_X0_isOfKind _ _ _ _ hz4) ?_
      refine ev_if_ne 46 dX7_as_37 (by decide) (fun c3 => ?_) (fun c3 => ?_)
      · replace h := bv_ff c3 h
        refine ev_aload_n dX7_as_46 rfl ?_
        refine ev_getR 1 lf_X7_10 dX7_as_47 rfl rfl rfl ?_
        refine ev_getR 6 lf_X7_122 dX7_as_50 rfl rfl rfl ?_
        refine ev_iload_n dX7_as_53 rfl ?_
        obtain ⟨q2, hq2, h⟩ := bv_bd h
        refine er_aald (N := 8) q2 dX7_as_54 rfl g1 hq2 ?_
        obtain ⟨g3, h⟩ := bv_gd h
        refine ev_getI lf_X7_138 dX7_as_55 g3 rfl ?_
        obtain rfl := Option.some.inj h
        exact ev_iret rfl dX7_as_58 ⟨rfl, rfl, rfl⟩
      · replace h := bv_tt c3 h
        refine ev_aload_n dX7_as_40 rfl ?_
        refine ev_iconst (5 : Int32) dX7_as_41 (by decide) ?_
        obtain ⟨z5, hz5, h⟩ := bv_bd h
        refine er_VI [.int _] (fun _ _ q => q) lk_X7_62 dX7_as_42 rfl rfl rfl rfl rfl (wm_X7_error _ _ _ hz5) ?_
        obtain rfl := Option.some.inj h
        exact ev_iret rfl dX7_as_45 ⟨rfl, rfl, rfl⟩
    · replace h := bv_tt c2 h
      refine ev_aload_n dX7_as_18 rfl ?_
      refine ev_iconst (1 : Int32) dX7_as_19 (by decide) ?_
      obtain ⟨z6, hz6, h⟩ := bv_bd h
      refine er_VI [.int _] (fun _ _ q => q) lk_X7_62 dX7_as_20 rfl rfl rfl rfl rfl (wm_X7_error _ _ _ hz6) ?_
      obtain rfl := Option.some.inj h
      exact ev_iret rfl dX7_as_23 ⟨rfl, rfl, rfl⟩
theorem wm_X7_as   (l1 : Int32) (l2 : Int32) (mi : bv_Mem) (z : Int32 × bv_Mem) (h : f_X7_as  l1 l2 mi = some z) : bv_Met yX7_as MX7_as bv_X0 2 74 74 [.ref 0, .int l1, .int l2] (bv_mr mi) mi (bv_QI z) :=
  bv_Met.of (pn_X 7 (by decide)) rfl (fun q => absurd q Bool.false_ne_true) (Nat.le_of_ble_eq_true rfl) (we_X7_as   l1 l2 mi z h)
set_option maxRecDepth 100000 in
set_option maxHeartbeats 4000000 in
theorem wb_X1_bringBack_2  : ∀ (fu : Nat) (l1 : Int32) (l2 : Int32) (mi : bv_Mem) (z : bv_Mem), b_X1_bringBack_2 fu l1 l2 mi = some z → bv_Ev MX1_bringBack bv_X0 0 74 74 (bv_QV z) 2 [some (.ref 2), some (.int l1), some (.int l2)] [] 74 (bv_mr mi) mi := by
  intro fu
  induction fu with
  | zero =>
    intro l1 l2 mi z h
    rw [b_X1_bringBack_2] at h
    cases h
  | succ fu ih =>
    intro l1 l2 mi z h
    rw [b_X1_bringBack_2] at h
    refine ev_iload_n dX1_bringBack_2 rfl ?_
    refine ev_bipush (20 : Int32) dX1_bringBack_3 (by decide) ?_
    refine ev_icmp_ge 29 dX1_bringBack_5 (by decide) (fun c1 => ?_) (fun c1 => ?_)
    · replace h := bv_tt c1 h
      obtain rfl := Option.some.inj h
      exact ev_vret rfl dX1_bringBack_29 ⟨rfl, rfl, rfl⟩
    · replace h := bv_ff c1 h
      refine ev_iload_n dX1_bringBack_8 rfl ?_
      refine ev_iload_n dX1_bringBack_9 rfl ?_
      refine ev_ishr dX1_bringBack_10 ?_
      refine ev_iconst (1 : Int32) dX1_bringBack_11 (by decide) ?_
      refine ev_iand dX1_bringBack_12 ?_
      refine ev_if_eq 23 dX1_bringBack_13 (by decide) (fun c2 => ?_) (fun c2 => ?_)
      · replace h := bv_tt c2 h
        refine ev_iinc (l2 + 1) dX1_bringBack_23 rfl rfl rfl rfl ?_
        refine ev_goto 2 dX1_bringBack_26 (by decide) ?_
        exact ev_weak (by exact And.intro rfl (And.intro rfl (And.intro rfl (trivial)))) (ih _ _ _ _ h)
      · replace h := bv_ff c2 h
        refine ev_aload_n dX1_bringBack_16 rfl ?_
        refine ev_getR 4 lf_X1_15 dX1_bringBack_17 rfl rfl rfl ?_
        refine ev_iload_n dX1_bringBack_20 rfl ?_
        refine ev_iconst (0 : Int32) dX1_bringBack_21 (by decide) ?_
        obtain ⟨g1, h⟩ := bv_gd h
        refine er_iast (N := 20) dX1_bringBack_22 rfl g1 ?_
        refine ev_iinc (l2 + 1) dX1_bringBack_23 rfl rfl rfl rfl ?_
        refine ev_goto 2 dX1_bringBack_26 (by decide) ?_
        exact ev_weak (by exact And.intro rfl (And.intro rfl (And.intro rfl (trivial)))) (ih _ _ _ _ h)
set_option maxRecDepth 100000 in
set_option maxHeartbeats 4000000 in
theorem we_X1_bringBack   (l1 : Int32) (mi : bv_Mem) (z : bv_Mem) (h : f_X1_bringBack  l1 mi = some z) : bv_Ev MX1_bringBack bv_X0 0 74 74 (bv_QV z) 0 [some (.ref 2), some (.int l1), none] [] 74 (bv_mr mi) mi := by
  unfold f_X1_bringBack at h
  refine ev_iconst (0 : Int32) dX1_bringBack_0 (by decide) ?_
  refine ev_istore_n dX1_bringBack_1 rfl rfl ?_
  exact ev_weak (by exact And.intro rfl (And.intro rfl (And.intro rfl (trivial)))) (wb_X1_bringBack_2  400 _ _ _ _ h)
theorem wm_X1_bringBack   (l1 : Int32) (mi : bv_Mem) (z : bv_Mem) (h : f_X1_bringBack  l1 mi = some z) : bv_Met yX1_bringBack MX1_bringBack bv_X0 0 74 74 [.ref 2, .int l1] (bv_mr mi) mi (bv_QV z) :=
  bv_Met.of (pn_X 1 (by decide)) rfl (fun q => absurd q Bool.false_ne_true) (Nat.le_of_ble_eq_true rfl) (we_X1_bringBack   l1 mi z h)
set_option maxRecDepth 100000 in
set_option maxHeartbeats 4000000 in
theorem we_X7_open   (l1 : Int32) (mi : bv_Mem) (z : Int32 × bv_Mem) (h : f_X7_open  l1 mi = some z) : bv_Ev MX7_open bv_X0 3 74 74 (bv_QI z) 0 [some (.ref 0), some (.int l1), none, none] [] 74 (bv_mr mi) mi := by
  unfold f_X7_open at h
  refine ev_aload_n dX7_open_0 rfl ?_
  refine ev_iload_n dX7_open_1 rfl ?_
  obtain ⟨z1, hz1, h⟩ := bv_bd h
  refine er_VP [.int _] (fun _ _ q => q) lk_X7_132 dX7_open_2 rfl rfl rfl rfl rfl (wm_X7_isBottle _ _ _ hz1) ?_
  refine ev_if_ne 14 dX7_open_5 (by decide) (fun c1 => ?_) (fun c1 => ?_)
  · replace h := bv_ff c1 h
    refine ev_aload_n dX7_open_14 rfl ?_
    refine ev_getR 1 lf_X7_10 dX7_open_15 rfl rfl rfl ?_
    refine ev_getR 6 lf_X7_122 dX7_open_18 rfl rfl rfl ?_
    refine ev_iload_n dX7_open_21 rfl ?_
    obtain ⟨g1, h⟩ := bv_gd h
    obtain ⟨q1, hq1, h⟩ := bv_bd h
    refine er_aald (N := 8) q1 dX7_open_22 rfl g1 hq1 ?_
    refine ev_astore_n dX7_open_23 rfl rfl ?_
    refine ev_aload_n dX7_open_24 rfl ?_
    obtain ⟨g2, h⟩ := bv_gd h
    refine ev_getI lf_X7_150 dX7_open_25 g2 rfl ?_
    refine ev_if_eq 37 dX7_open_28 (by decide) (fun c2 => ?_) (fun c2 => ?_)
    · replace h := bv_tt c2 h
      refine ev_aload_n dX7_open_37 rfl ?_
      obtain ⟨z2, hz2, h⟩ := bv_bd h
      refine er_VP [] (fun _ _ q => q) lk_X7_158 dX7_open_38 rfl rfl g2 rfl rfl (wm_X0_left _ _ _ hz2) ?_
      refine ev_aload_n dX7_open_41 rfl ?_
      refine ev_getR 1 lf_X7_10 dX7_open_42 rfl rfl rfl ?_
      refine ev_getR 2 lf_X7_66 dX7_open_45 rfl rfl rfl ?_
      refine ev_iconst (0 : Int32) dX7_open_48 (by decide) ?_
      obtain ⟨z3, hz3, h⟩ := bv_bd h
      refine er_VP [.int _] (fun _ _ q => q) lk_X7_78 dX7_open_49 rfl rfl rfl rfl rfl (wm_X1_goneBehind _ _ _ hz3) ?_
      refine ev_iand dX7_open_52 ?_
      refine ev_istore_n dX7_open_53 rfl rfl ?_
      refine ev_aload_n dX7_open_54 rfl ?_
      refine ev_getR 1 lf_X7_10 dX7_open_55 rfl rfl rfl ?_
      refine ev_getR 2 lf_X7_66 dX7_open_58 rfl rfl rfl ?_
      refine ev_iload_n dX7_open_61 rfl ?_
      obtain ⟨z4, hz4, h⟩ := bv_bd h
      refine er_VV [.int _] (fun _ _ q => q) lk_X7_176 dX7_open_62 rfl rfl rfl rfl rfl (wm_X1_bringBack _ _ _ hz4) ?_
      refine ev_aload_n dX7_open_65 rfl ?_
      refine ev_iconst (0 : Int32) dX7_open_66 (by decide) ?_
      refine er_putI lf_X7_144 dX7_open_67 g2 rfl rfl rfl ?_
      refine ev_aload_n dX7_open_70 rfl ?_
      refine ev_iconst (1 : Int32) dX7_open_71 (by decide) ?_
      refine er_putI lf_X7_150 dX7_open_72 g2 rfl rfl rfl ?_
      refine ev_iload_n dX7_open_75 rfl ?_
      obtain ⟨z5, hz5, h⟩ := bv_bd h
      refine er_SP [.int _] (fun _ _ q => q) lk_X7_89 dX7_open_76 rfl rfl rfl rfl (wm_J6_bitCount_0f7a4 _ _ _ hz5) ?_
      obtain rfl := Option.some.inj h
      exact ev_iret rfl dX7_open_79 ⟨rfl, rfl, rfl⟩
    · replace h := bv_ff c2 h
      refine ev_aload_n dX7_open_31 rfl ?_
      refine ev_iconst (3 : Int32) dX7_open_32 (by decide) ?_
      obtain ⟨z6, hz6, h⟩ := bv_bd h
      refine er_VI [.int _] (fun _ _ q => q) lk_X7_62 dX7_open_33 rfl rfl rfl rfl rfl (wm_X7_error _ _ _ hz6) ?_
      obtain rfl := Option.some.inj h
      exact ev_iret rfl dX7_open_36 ⟨rfl, rfl, rfl⟩
  · replace h := bv_tt c1 h
    refine ev_aload_n dX7_open_8 rfl ?_
    refine ev_iconst (1 : Int32) dX7_open_9 (by decide) ?_
    obtain ⟨z7, hz7, h⟩ := bv_bd h
    refine er_VI [.int _] (fun _ _ q => q) lk_X7_62 dX7_open_10 rfl rfl rfl rfl rfl (wm_X7_error _ _ _ hz7) ?_
    obtain rfl := Option.some.inj h
    exact ev_iret rfl dX7_open_13 ⟨rfl, rfl, rfl⟩
theorem wm_X7_open   (l1 : Int32) (mi : bv_Mem) (z : Int32 × bv_Mem) (h : f_X7_open  l1 mi = some z) : bv_Met yX7_open MX7_open bv_X0 3 74 74 [.ref 0, .int l1] (bv_mr mi) mi (bv_QI z) :=
  bv_Met.of (pn_X 7 (by decide)) rfl (fun q => absurd q Bool.false_ne_true) (Nat.le_of_ble_eq_true rfl) (we_X7_open   l1 mi z h)
set_option maxRecDepth 100000 in
set_option maxHeartbeats 4000000 in
theorem we_X4_append   (l0 : Nat) (l1 : Int32) (mi : bv_Mem) (z : bv_Mem) (h : f_X4_append  l0 l1 mi = some z) : bv_Ev MX4_append bv_X0 0 74 74 (bv_QV z) 0 [some (.ref l0), some (.int l1)] [] 74 (bv_mr mi) mi := by
  unfold f_X4_append at h
  refine ev_aload_n dX4_append_0 rfl ?_
  obtain ⟨g1, h⟩ := bv_gd h
  refine ev_getI lf_X4_15 dX4_append_1 g1 rfl ?_
  refine ev_bipush (50 : Int32) dX4_append_4 (by decide) ?_
  refine ev_icmp_ge 30 dX4_append_6 (by decide) (fun c1 => ?_) (fun c1 => ?_)
  · replace h := bv_tt c1 h
    obtain rfl := Option.some.inj h
    exact ev_vret rfl dX4_append_30 ⟨rfl, rfl, rfl⟩
  · replace h := bv_ff c1 h
    refine ev_aload_n dX4_append_9 rfl ?_
    obtain ⟨q1, hq1, h⟩ := bv_bd h
    refine er_getRq q1 lf_X4_9 dX4_append_10 g1 rfl rfl hq1 ?_
    refine ev_aload_n dX4_append_13 rfl ?_
    refine ev_getI lf_X4_15 dX4_append_14 g1 rfl ?_
    refine ev_iload_n dX4_append_17 rfl ?_
    refine ev_i2b dX4_append_18 ?_
    obtain ⟨g2, h⟩ := bv_gd h
    obtain ⟨g3, h⟩ := bv_gd h
    refine er_bast (N := (bv_len q1)) dX4_append_19 g2 g3 ?_
    refine ev_aload_n dX4_append_20 rfl ?_
    refine ev_dup dX4_append_21 rfl ?_
    refine ev_getI lf_X4_15 dX4_append_22 g1 rfl ?_
    refine ev_iconst (1 : Int32) dX4_append_25 (by decide) ?_
    refine ev_iadd dX4_append_26 ?_
    refine er_putI lf_X4_15 dX4_append_27 g1 rfl rfl rfl ?_
    obtain rfl := Option.some.inj h
    exact ev_vret rfl dX4_append_30 ⟨rfl, rfl, rfl⟩
theorem wm_X4_append   (l0 : Nat) (l1 : Int32) (mi : bv_Mem) (z : bv_Mem) (h : f_X4_append  l0 l1 mi = some z) : bv_Met yX4_append MX4_append bv_X0 0 74 74 [.ref l0, .int l1] (bv_mr mi) mi (bv_QV z) :=
  bv_Met.of (pn_X 4 (by decide)) rfl (fun q => absurd q Bool.false_ne_true) (Nat.le_of_ble_eq_true rfl) (we_X4_append   l0 l1 mi z h)
set_option maxRecDepth 100000 in
set_option maxHeartbeats 4000000 in
theorem wb_X7_feed_42  : ∀ (fu : Nat) (l1 : Int64) (l3 : Int32) (l4 : Int32) (mi : bv_Mem) (z : Int32 × bv_Mem), b_X7_feed_42 fu l1 l3 l4 mi = some z → bv_Ev MX7_feed bv_X0 1 74 74 (bv_QI z) 42 [some (.ref 0), some (.long l1), none, some (.int l3), some (.int l4)] [] 74 (bv_mr mi) mi := by
  intro fu
  induction fu with
  | zero =>
    intro l1 l3 l4 mi z h
    rw [b_X7_feed_42] at h
    cases h
  | succ fu ih =>
    intro l1 l3 l4 mi z h
    rw [b_X7_feed_42] at h
    refine ev_iload dX7_feed_42 rfl ?_
    refine ev_iload_n dX7_feed_44 rfl ?_
    refine ev_icmp_ge 76 dX7_feed_45 (by decide) (fun c1 => ?_) (fun c1 => ?_)
    · replace h := bv_tt c1 h
      refine ev_aload_n dX7_feed_76 rfl ?_
      refine ev_getR 1 lf_X7_10 dX7_feed_77 rfl rfl rfl ?_
      refine ev_getR 7 lf_X7_179 dX7_feed_80 rfl rfl rfl ?_
      refine ev_getI lf_X7_183 dX7_feed_83 rfl rfl ?_
      obtain rfl := Option.some.inj h
      exact ev_iret rfl dX7_feed_86 ⟨rfl, rfl, rfl⟩
    · replace h := bv_ff c1 h
      refine ev_aload_n dX7_feed_48 rfl ?_
      refine ev_getR 1 lf_X7_10 dX7_feed_49 rfl rfl rfl ?_
      refine ev_getR 7 lf_X7_179 dX7_feed_52 rfl rfl rfl ?_
      refine ev_lload_n dX7_feed_55 rfl ?_
      refine ev_bipush (8 : Int32) dX7_feed_56 (by decide) ?_
      refine ev_iload dX7_feed_58 rfl ?_
      refine ev_imul dX7_feed_60 ?_
      refine ev_lushr dX7_feed_61 ?_
      refine ev_l2i dX7_feed_62 ?_
      refine ev_sipush (255 : Int32) dX7_feed_63 (by decide) ?_
      refine ev_iand dX7_feed_66 ?_
      obtain ⟨z1, hz1, h⟩ := bv_bd h
      refine er_VV [.int _] (fun _ _ q => q) lk_X7_188 dX7_feed_67 rfl rfl rfl rfl rfl (wm_X4_append _ _ _ _ hz1) ?_
      refine ev_iinc (l4 + 1) dX7_feed_70 rfl rfl rfl rfl ?_
      refine ev_goto 42 dX7_feed_73 (by decide) ?_
      exact ev_weak (by exact And.intro rfl (And.intro rfl (And.intro rfl (And.intro rfl (trivial))))) (ih _ _ _ _ _ h)
set_option maxRecDepth 100000 in
set_option maxHeartbeats 4000000 in
theorem we_X7_feed   (l1 : Int64) (l3 : Int32) (mi : bv_Mem) (z : Int32 × bv_Mem) (h : f_X7_feed  l1 l3 mi = some z) : bv_Ev MX7_feed bv_X0 1 74 74 (bv_QI z) 0 [some (.ref 0), some (.long l1), none, some (.int l3), none] [] 74 (bv_mr mi) mi := by
  unfold f_X7_feed at h
  refine ev_iload_n dX7_feed_0 rfl ?_
  refine ev_iconst (1 : Int32) dX7_feed_1 (by decide) ?_
  refine ev_bipush (8 : Int32) dX7_feed_2 (by decide) ?_
  obtain ⟨z1, hz1, h⟩ := bv_bd h
  refine er_SP [.int _, .int _, .int _] (fun _ _ q => q) lk_X7_58 dX7_feed_4 rfl rfl rfl rfl (wm_X7_isWithin _ _ _ _ _ hz1) ?_
  refine ev_if_ne 16 dX7_feed_7 (by decide) (fun c1 => ?_) (fun c1 => ?_)
  · replace h := bv_ff c1 h
    refine ev_aload_n dX7_feed_16 rfl ?_
    refine ev_getR 1 lf_X7_10 dX7_feed_17 rfl rfl rfl ?_
    refine ev_getR 7 lf_X7_179 dX7_feed_20 rfl rfl rfl ?_
    refine ev_getI lf_X7_183 dX7_feed_23 rfl rfl ?_
    refine ev_iload_n dX7_feed_26 rfl ?_
    refine ev_iadd dX7_feed_27 ?_
    refine ev_bipush (50 : Int32) dX7_feed_28 (by decide) ?_
    refine ev_icmp_le 39 dX7_feed_30 (by decide) (fun c2 => ?_) (fun c2 => ?_)
    · replace h := bv_tt c2 h
      refine ev_iconst (0 : Int32) dX7_feed_39 (by decide) ?_
      refine ev_istore dX7_feed_40 rfl rfl ?_
      exact ev_weak (by exact And.intro rfl (And.intro rfl (And.intro rfl (And.intro rfl (trivial))))) (wb_X7_feed_42  400 _ _ _ _ _ h)
    · replace h := bv_ff c2 h
      refine ev_aload_n dX7_feed_33 rfl ?_
      refine ev_iconst (4 : Int32) dX7_feed_34 (by decide) ?_
      obtain ⟨z2, hz2, h⟩ := bv_bd h
      refine er_VI [.int _] (fun _ _ q => q) lk_X7_62 dX7_feed_35 rfl rfl rfl rfl rfl (wm_X7_error _ _ _ hz2) ?_
      obtain rfl := Option.some.inj h
      exact ev_iret rfl dX7_feed_38 ⟨rfl, rfl, rfl⟩
  · replace h := bv_tt c1 h
    refine ev_aload_n dX7_feed_10 rfl ?_
    refine ev_iconst (1 : Int32) dX7_feed_11 (by decide) ?_
    obtain ⟨z3, hz3, h⟩ := bv_bd h
    refine er_VI [.int _] (fun _ _ q => q) lk_X7_62 dX7_feed_12 rfl rfl rfl rfl rfl (wm_X7_error _ _ _ hz3) ?_
    obtain rfl := Option.some.inj h
    exact ev_iret rfl dX7_feed_15 ⟨rfl, rfl, rfl⟩
theorem wm_X7_feed   (l1 : Int64) (l3 : Int32) (mi : bv_Mem) (z : Int32 × bv_Mem) (h : f_X7_feed  l1 l3 mi = some z) : bv_Met yX7_feed MX7_feed bv_X0 1 74 74 [.ref 0, .long l1, .int l3] (bv_mr mi) mi (bv_QI z) :=
  bv_Met.of (pn_X 7 (by decide)) rfl (fun q => absurd q Bool.false_ne_true) (Nat.le_of_ble_eq_true rfl) (we_X7_feed   l1 l3 mi z h)
set_option maxRecDepth 100000 in
set_option maxHeartbeats 4000000 in
theorem we_X7_isUse   (l0 : Int32) (mi : bv_Mem) (z : Int32) (h : f_X7_isUse  l0 mi = some z) : bv_Ev MX7_isUse bv_X0 0 74 74 (bv_QP z mi) 0 [some (.int l0)] [] 74 (bv_mr mi) mi := by
  unfold f_X7_isUse at h
  refine ev_iload_n dX7_isUse_0 rfl ?_
  refine ev_if_eq 9 dX7_isUse_1 (by decide) (fun c1 => ?_) (fun c1 => ?_)
  · replace h := bv_tt c1 h
    refine ev_iconst (1 : Int32) dX7_isUse_9 (by decide) ?_
    refine ev_goto 14 dX7_isUse_10 (by decide) ?_
    obtain rfl := Option.some.inj h
    exact ev_zret rfl (Or.inr rfl) dX7_isUse_14 ⟨rfl, rfl, rfl⟩
  · replace h := bv_ff c1 h
    refine ev_iload_n dX7_isUse_4 rfl ?_
    refine ev_iconst (1 : Int32) dX7_isUse_5 (by decide) ?_
    refine ev_icmp_ne 13 dX7_isUse_6 (by decide) (fun c2 => ?_) (fun c2 => ?_)
    · replace h := bv_ff c2 h
      refine ev_iconst (0 : Int32) dX7_isUse_13 (by decide) ?_
      obtain rfl := Option.some.inj h
      exact ev_zret rfl (Or.inl rfl) dX7_isUse_14 ⟨rfl, rfl, rfl⟩
    · replace h := bv_tt c2 h
      refine ev_iconst (1 : Int32) dX7_isUse_9 (by decide) ?_
      refine ev_goto 14 dX7_isUse_10 (by decide) ?_
      obtain rfl := Option.some.inj h
      exact ev_zret rfl (Or.inr rfl) dX7_isUse_14 ⟨rfl, rfl, rfl⟩
theorem wm_X7_isUse   (l0 : Int32) (mi : bv_Mem) (z : Int32) (h : f_X7_isUse  l0 mi = some z) : bv_Met yX7_isUse MX7_isUse bv_X0 0 74 74 [.int l0] (bv_mr mi) mi (bv_QP z mi) :=
  bv_Met.of (pn_X 7 (by decide)) rfl (fun q => absurd q Bool.false_ne_true) (Nat.le_of_ble_eq_true rfl) (we_X7_isUse   l0 mi z h)
set_option maxRecDepth 100000 in
set_option maxHeartbeats 4000000 in
theorem we_X2_faultOf   (l1 : Nat) (l2 : Int32) (mi : bv_Mem) (z : Int32 × bv_Mem) (h : f_X2_faultOf  l1 l2 mi = some z) : bv_Ev MX2_faultOf bv_X0 64 74 74 (bv_QI z) 0 [some (.ref 43), some (.ref l1), some (.int l2)] [] 74 (bv_mr mi) mi := by
  unfold f_X2_faultOf at h
  refine ev_aload_n dX2_faultOf_0 rfl ?_
  refine ev_aload_n dX2_faultOf_1 rfl ?_
  refine ev_iload_n dX2_faultOf_2 rfl ?_
  refine ev_iconst (0 : Int32) dX2_faultOf_3 (by decide) ?_
  refine ev_iconst (0 : Int32) dX2_faultOf_4 (by decide) ?_
  refine ev_iconst (0 : Int32) dX2_faultOf_5 (by decide) ?_
  obtain ⟨z1, hz1, h⟩ := bv_bd h
  refine er_VI [.ref _, .int _, .int _, .int _, .int _] (fun _ _ q => q) lk_X2_35 dX2_faultOf_6 rfl rfl rfl rfl rfl (wm_X2_worth _ _ _ _ _ _ _ hz1) ?_
  refine ev_pop dX2_faultOf_9 rfl ?_
  refine ev_aload_n dX2_faultOf_10 rfl ?_
  refine ev_getI lf_X2_32 dX2_faultOf_11 rfl rfl ?_
  obtain rfl := Option.some.inj h
  exact ev_iret rfl dX2_faultOf_14 ⟨rfl, rfl, rfl⟩
theorem wm_X2_faultOf   (l1 : Nat) (l2 : Int32) (mi : bv_Mem) (z : Int32 × bv_Mem) (h : f_X2_faultOf  l1 l2 mi = some z) : bv_Met yX2_faultOf MX2_faultOf bv_X0 64 74 74 [.ref 43, .ref l1, .int l2] (bv_mr mi) mi (bv_QI z) :=
  bv_Met.of (pn_X 2 (by decide)) rfl (fun q => absurd q Bool.false_ne_true) (Nat.le_of_ble_eq_true rfl) (we_X2_faultOf   l1 l2 mi z h)
set_option maxRecDepth 100000 in
set_option maxHeartbeats 4000000 in
theorem we_X4_copyTape   (l0 : Nat) (l1 : Nat) (mi : bv_Mem) (z : bv_Mem) (h : f_X4_copyTape  l0 l1 mi = some z) : bv_Ev MX4_copyTape bv_X0 1 74 74 (bv_QV z) 0 [some (.ref l0), some (.ref l1)] [] 74 (bv_mr mi) mi := by
  unfold f_X4_copyTape at h
  refine ev_aload_n dX4_copyTape_0 rfl ?_
  obtain ⟨g1, h⟩ := bv_gd h
  obtain ⟨q1, hq1, h⟩ := bv_bd h
  refine er_getRq q1 lf_X4_9 dX4_copyTape_1 g1 rfl rfl hq1 ?_
  refine ev_iconst (0 : Int32) dX4_copyTape_4 (by decide) ?_
  refine ev_aload_n dX4_copyTape_5 rfl ?_
  obtain ⟨g2, h⟩ := bv_gd h
  obtain ⟨q2, hq2, h⟩ := bv_bd h
  refine er_getRq q2 lf_X4_9 dX4_copyTape_6 g2 rfl rfl hq2 ?_
  refine ev_iconst (0 : Int32) dX4_copyTape_9 (by decide) ?_
  refine ev_bipush (50 : Int32) dX4_copyTape_10 (by decide) ?_
  obtain ⟨g3, h⟩ := bv_gd h
  obtain ⟨g4, h⟩ := bv_gd h
  obtain ⟨g5, h⟩ := bv_gd h
  refine er_copy (kd := 1) (N0 := (bv_len q1)) (N1 := (bv_len q2)) dX4_copyTape_12 lm_X4_19 (by decide) g3 g4 g5 (by decide) (Nat.le_of_ble_eq_true rfl) ?_
  refine ev_aload_n dX4_copyTape_15 rfl ?_
  refine ev_aload_n dX4_copyTape_16 rfl ?_
  refine ev_getI lf_X4_15 dX4_copyTape_17 g1 rfl ?_
  refine er_putI lf_X4_15 dX4_copyTape_20 g2 rfl rfl rfl ?_
  obtain rfl := Option.some.inj h
  exact ev_vret rfl dX4_copyTape_23 ⟨rfl, rfl, rfl⟩
theorem wm_X4_copyTape   (l0 : Nat) (l1 : Nat) (mi : bv_Mem) (z : bv_Mem) (h : f_X4_copyTape  l0 l1 mi = some z) : bv_Met yX4_copyTape MX4_copyTape bv_X0 1 74 74 [.ref l0, .ref l1] (bv_mr mi) mi (bv_QV z) :=
  bv_Met.of (pn_X 4 (by decide)) rfl (fun q => absurd q Bool.false_ne_true) (Nat.le_of_ble_eq_true rfl) (we_X4_copyTape   l0 l1 mi z h)
set_option maxRecDepth 100000 in
set_option maxHeartbeats 4000000 in
theorem wb_X7_text_51  (l2 : Int32) (mi : bv_Mem) (z : Int32 × bv_Mem) (h : b_X7_text_51 l2 mi = some z) : bv_Ev MX7_text bv_X0 65 74 74 (bv_QI z) 51 [some (.ref 0), none, some (.int l2)] [] 74 (bv_mr mi) mi := by
  unfold b_X7_text_51 at h
  refine ev_aload_n dX7_text_51 rfl ?_
  refine ev_getR 1 lf_X7_10 dX7_text_52 rfl rfl rfl ?_
  refine ev_getR 7 lf_X7_179 dX7_text_55 rfl rfl rfl ?_
  refine ev_iconst (0 : Int32) dX7_text_58 (by decide) ?_
  refine er_putI lf_X7_183 dX7_text_59 rfl rfl rfl rfl ?_
  refine ev_iload_n dX7_text_62 rfl ?_
  refine ev_if_ge 70 dX7_text_63 (by decide) (fun c1 => ?_) (fun c1 => ?_)
  · replace h := bv_tt c1 h
    refine ev_bipush (-10 : Int32) dX7_text_70 (by decide) ?_
    refine ev_iload_n dX7_text_72 rfl ?_
    refine ev_isub dX7_text_73 ?_
    obtain rfl := Option.some.inj h
    exact ev_iret rfl dX7_text_74 ⟨rfl, rfl, rfl⟩
  · replace h := bv_ff c1 h
    refine ev_iconst (1 : Int32) dX7_text_66 (by decide) ?_
    refine ev_goto 74 dX7_text_67 (by decide) ?_
    obtain rfl := Option.some.inj h
    exact ev_iret rfl dX7_text_74 ⟨rfl, rfl, rfl⟩
set_option maxRecDepth 100000 in
set_option maxHeartbeats 4000000 in
theorem we_X7_text   (l1 : Int32) (mi : bv_Mem) (z : Int32 × bv_Mem) (h : f_X7_text  l1 mi = some z) : bv_Ev MX7_text bv_X0 65 74 74 (bv_QI z) 0 [some (.ref 0), some (.int l1), none] [] 74 (bv_mr mi) mi := by
  unfold f_X7_text at h
  refine ev_iload_n dX7_text_0 rfl ?_
  obtain ⟨z1, hz1, h⟩ := bv_bd h
  refine er_SP [.int _] (fun _ _ q => q) lk_X7_191 dX7_text_1 rfl rfl rfl rfl (wm_X7_isUse _ _ _ hz1) ?_
  refine ev_if_ne 13 dX7_text_4 (by decide) (fun c1 => ?_) (fun c1 => ?_)
  · replace h := bv_ff c1 h
    refine ev_aload_n dX7_text_13 rfl ?_
    refine ev_getR 43 lf_X7_26 dX7_text_14 rfl rfl rfl ?_
    refine ev_aload_n dX7_text_17 rfl ?_
    refine ev_getR 1 lf_X7_10 dX7_text_18 rfl rfl rfl ?_
    refine ev_getR 7 lf_X7_179 dX7_text_21 rfl rfl rfl ?_
    refine ev_iload_n dX7_text_24 rfl ?_
    obtain ⟨z2, hz2, h⟩ := bv_bd h
    refine er_VI [.ref _, .int _] (fun _ _ q => q) lk_X7_194 dX7_text_25 rfl rfl rfl rfl rfl (wm_X2_faultOf _ _ _ _ hz2) ?_
    refine ev_istore_n dX7_text_28 rfl rfl ?_
    refine ev_iload_n dX7_text_29 rfl ?_
    refine ev_if_ge 51 dX7_text_30 (by decide) (fun c2 => ?_) (fun c2 => ?_)
    · replace h := bv_tt c2 h
      exact ev_weak (by exact And.intro rfl (And.intro rfl (trivial))) (wb_X7_text_51  _ _ _ h)
    · replace h := bv_ff c2 h
      refine ev_aload_n dX7_text_33 rfl ?_
      refine ev_getR 1 lf_X7_10 dX7_text_34 rfl rfl rfl ?_
      refine ev_iload_n dX7_text_37 rfl ?_
      obtain ⟨z3, hz3, h⟩ := bv_bd h
      refine er_VR [.int _] (fun _ _ q => q) lk_X7_198 dX7_text_38 rfl rfl rfl rfl rfl (wm_X5_textOf _ _ _ hz3) ?_
      refine ev_aload_n dX7_text_41 rfl ?_
      refine ev_getR 1 lf_X7_10 dX7_text_42 rfl rfl rfl ?_
      refine ev_getR 7 lf_X7_179 dX7_text_45 rfl rfl rfl ?_
      obtain ⟨g1, h⟩ := bv_gd h
      obtain ⟨z4, hz4, h⟩ := bv_bd h
      refine er_VV [.ref _] (fun _ _ q => q) lk_X7_202 dX7_text_48 rfl rfl g1 rfl rfl (wm_X4_copyTape _ _ _ _ hz4) ?_
      exact ev_weak (by exact And.intro rfl (And.intro rfl (trivial))) (wb_X7_text_51  _ _ _ h)
  · replace h := bv_tt c1 h
    refine ev_aload_n dX7_text_7 rfl ?_
    refine ev_iconst (1 : Int32) dX7_text_8 (by decide) ?_
    obtain ⟨z5, hz5, h⟩ := bv_bd h
    refine er_VI [.int _] (fun _ _ q => q) lk_X7_62 dX7_text_9 rfl rfl rfl rfl rfl (wm_X7_error _ _ _ hz5) ?_
    obtain rfl := Option.some.inj h
    exact ev_iret rfl dX7_text_12 ⟨rfl, rfl, rfl⟩
theorem wm_X7_text   (l1 : Int32) (mi : bv_Mem) (z : Int32 × bv_Mem) (h : f_X7_text  l1 mi = some z) : bv_Met yX7_text MX7_text bv_X0 65 74 74 [.ref 0, .int l1] (bv_mr mi) mi (bv_QI z) :=
  bv_Met.of (pn_X 7 (by decide)) rfl (fun q => absurd q Bool.false_ne_true) (Nat.le_of_ble_eq_true rfl) (we_X7_text   l1 mi z h)
set_option maxRecDepth 100000 in
set_option maxHeartbeats 4000000 in
theorem we_X7_law   (l1 : Int32) (l2 : Int32) (l3 : Int32) (l4 : Int32) (mi : bv_Mem) (z : Int32 × bv_Mem) (h : f_X7_law  l1 l2 l3 l4 mi = some z) : bv_Ev MX7_law bv_X0 65 74 74 (bv_QI z) 0 [some (.ref 0), some (.int l1), some (.int l2), some (.int l3), some (.int l4)] [] 74 (bv_mr mi) mi := by
  unfold f_X7_law at h
  refine ev_iload_n dX7_law_0 rfl ?_
  obtain ⟨z1, hz1, h⟩ := bv_bd h
  refine er_SP [.int _] (fun _ _ q => q) lk_X7_191 dX7_law_1 rfl rfl rfl rfl (wm_X7_isUse _ _ _ hz1) ?_
  refine ev_if_ne 13 dX7_law_4 (by decide) (fun c1 => ?_) (fun c1 => ?_)
  · replace h := bv_ff c1 h
    refine ev_aload_n dX7_law_13 rfl ?_
    refine ev_iload_n dX7_law_14 rfl ?_
    refine ev_iload_n dX7_law_15 rfl ?_
    refine ev_iload_n dX7_law_16 rfl ?_
    refine ev_iload dX7_law_17 rfl ?_
    obtain ⟨z2, hz2, h⟩ := bv_bd h
    refine er_VI [.int _, .int _, .int _, .int _] (fun _ _ q => q) lk_X7_206 dX7_law_19 rfl rfl rfl rfl rfl (wm_X7_lawGives _ _ _ _ _ _ hz2) ?_
    obtain rfl := Option.some.inj h
    exact ev_iret rfl dX7_law_22 ⟨rfl, rfl, rfl⟩
  · replace h := bv_tt c1 h
    refine ev_aload_n dX7_law_7 rfl ?_
    refine ev_iconst (1 : Int32) dX7_law_8 (by decide) ?_
    obtain ⟨z3, hz3, h⟩ := bv_bd h
    refine er_VI [.int _] (fun _ _ q => q) lk_X7_62 dX7_law_9 rfl rfl rfl rfl rfl (wm_X7_error _ _ _ hz3) ?_
    obtain rfl := Option.some.inj h
    exact ev_iret rfl dX7_law_12 ⟨rfl, rfl, rfl⟩
theorem wm_X7_law   (l1 : Int32) (l2 : Int32) (l3 : Int32) (l4 : Int32) (mi : bv_Mem) (z : Int32 × bv_Mem) (h : f_X7_law  l1 l2 l3 l4 mi = some z) : bv_Met yX7_law MX7_law bv_X0 65 74 74 [.ref 0, .int l1, .int l2, .int l3, .int l4] (bv_mr mi) mi (bv_QI z) :=
  bv_Met.of (pn_X 7 (by decide)) rfl (fun q => absurd q Bool.false_ne_true) (Nat.le_of_ble_eq_true rfl) (we_X7_law   l1 l2 l3 l4 mi z h)
set_option maxRecDepth 100000 in
set_option maxHeartbeats 4000000 in
theorem we_X7_missingBehind   (l1 : Int32) (mi : bv_Mem) (z : Int32) (h : f_X7_missingBehind  l1 mi = some z) : bv_Ev MX7_missingBehind bv_X0 1 74 74 (bv_QP z mi) 0 [some (.ref 0), some (.int l1)] [] 74 (bv_mr mi) mi := by
  unfold f_X7_missingBehind at h
  refine ev_aload_n dX7_missingBehind_0 rfl ?_
  refine ev_getR 1 lf_X7_10 dX7_missingBehind_1 rfl rfl rfl ?_
  refine ev_getR 2 lf_X7_66 dX7_missingBehind_4 rfl rfl rfl ?_
  refine ev_iload_n dX7_missingBehind_7 rfl ?_
  obtain ⟨z1, hz1, h⟩ := bv_bd h
  refine er_VP [.int _] (fun _ _ q => q) lk_X7_78 dX7_missingBehind_8 rfl rfl rfl rfl rfl (wm_X1_goneBehind _ _ _ hz1) ?_
  obtain ⟨z2, hz2, h⟩ := bv_bd h
  refine er_SP [.int _] (fun _ _ q => q) lk_X7_89 dX7_missingBehind_11 rfl rfl rfl rfl (wm_J6_bitCount_0f7a4 _ _ _ hz2) ?_
  obtain rfl := Option.some.inj h
  exact ev_iret rfl dX7_missingBehind_14 ⟨rfl, rfl, rfl⟩
theorem wm_X7_missingBehind   (l1 : Int32) (mi : bv_Mem) (z : Int32) (h : f_X7_missingBehind  l1 mi = some z) : bv_Met yX7_missingBehind MX7_missingBehind bv_X0 1 74 74 [.ref 0, .int l1] (bv_mr mi) mi (bv_QP z mi) :=
  bv_Met.of (pn_X 7 (by decide)) rfl (fun q => absurd q Bool.false_ne_true) (Nat.le_of_ble_eq_true rfl) (we_X7_missingBehind   l1 mi z h)
set_option maxRecDepth 100000 in
set_option maxHeartbeats 4000000 in
theorem we_X0_ageDay   (l0 : Nat) (mi : bv_Mem) (z : bv_Mem) (h : f_X0_ageDay  l0 mi = some z) : bv_Ev MX0_ageDay bv_X0 1 74 74 (bv_QV z) 0 [some (.ref l0)] [] 74 (bv_mr mi) mi := by
  unfold f_X0_ageDay at h
  refine ev_aload_n dX0_ageDay_0 rfl ?_
  obtain ⟨g1, h⟩ := bv_gd h
  refine ev_getI lf_X0_25 dX0_ageDay_1 g1 rfl ?_
  refine ev_if_ne 22 dX0_ageDay_4 (by decide) (fun c1 => ?_) (fun c1 => ?_)
  · replace h := bv_ff c1 h
    obtain rfl := Option.some.inj h
    exact ev_vret rfl dX0_ageDay_22 ⟨rfl, rfl, rfl⟩
  · replace h := bv_tt c1 h
    refine ev_aload_n dX0_ageDay_7 rfl ?_
    refine ev_bipush (99 : Int32) dX0_ageDay_8 (by decide) ?_
    refine ev_aload_n dX0_ageDay_10 rfl ?_
    refine ev_getI lf_X0_22 dX0_ageDay_11 g1 rfl ?_
    refine ev_iconst (1 : Int32) dX0_ageDay_14 (by decide) ?_
    refine ev_iadd dX0_ageDay_15 ?_
    refine er_min dX0_ageDay_16 lm_X0_63 rfl rfl ?_
    refine er_putI lf_X0_22 dX0_ageDay_19 g1 rfl rfl rfl ?_
    obtain rfl := Option.some.inj h
    exact ev_vret rfl dX0_ageDay_22 ⟨rfl, rfl, rfl⟩
theorem wm_X0_ageDay   (l0 : Nat) (mi : bv_Mem) (z : bv_Mem) (h : f_X0_ageDay  l0 mi = some z) : bv_Met yX0_ageDay MX0_ageDay bv_X0 1 74 74 [.ref l0] (bv_mr mi) mi (bv_QV z) :=
  bv_Met.of (pn_X 0 (by decide)) rfl (fun q => absurd q Bool.false_ne_true) (Nat.le_of_ble_eq_true rfl) (we_X0_ageDay   l0 mi z h)
set_option maxRecDepth 100000 in
set_option maxHeartbeats 4000000 in
theorem wb_X1_growDay_2  : ∀ (fu : Nat) (l1 : Int32) (mi : bv_Mem) (z : bv_Mem), b_X1_growDay_2 fu l1 mi = some z → bv_Ev MX1_growDay bv_X0 1 74 74 (bv_QV z) 2 [some (.ref 2), some (.int l1)] [] 74 (bv_mr mi) mi := by
  intro fu
  induction fu with
  | zero =>
    intro l1 mi z h
    rw [b_X1_growDay_2] at h
    cases h
  | succ fu ih =>
    intro l1 mi z h
    rw [b_X1_growDay_2] at h
    refine ev_iload_n dX1_growDay_2 rfl ?_
    refine ev_bipush (20 : Int32) dX1_growDay_3 (by decide) ?_
    refine ev_icmp_ge 32 dX1_growDay_5 (by decide) (fun c1 => ?_) (fun c1 => ?_)
    · replace h := bv_tt c1 h
      obtain rfl := Option.some.inj h
      exact ev_vret rfl dX1_growDay_32 ⟨rfl, rfl, rfl⟩
    · replace h := bv_ff c1 h
      refine ev_aload_n dX1_growDay_8 rfl ?_
      refine ev_getR 4 lf_X1_15 dX1_growDay_9 rfl rfl rfl ?_
      refine ev_iload_n dX1_growDay_12 rfl ?_
      refine ev_iconst (0 : Int32) dX1_growDay_13 (by decide) ?_
      refine ev_aload_n dX1_growDay_14 rfl ?_
      refine ev_getR 4 lf_X1_15 dX1_growDay_15 rfl rfl rfl ?_
      refine ev_iload_n dX1_growDay_18 rfl ?_
      obtain ⟨g1, h⟩ := bv_gd h
      refine ev_iald (N := 20) dX1_growDay_19 rfl g1 ?_
      refine ev_iconst (1 : Int32) dX1_growDay_20 (by decide) ?_
      refine ev_isub dX1_growDay_21 ?_
      refine er_max dX1_growDay_22 lm_X1_32 rfl rfl ?_
      refine er_iast (N := 20) dX1_growDay_25 rfl g1 ?_
      refine ev_iinc (l1 + 1) dX1_growDay_26 rfl rfl rfl rfl ?_
      refine ev_goto 2 dX1_growDay_29 (by decide) ?_
      exact ev_weak (by exact And.intro rfl (And.intro rfl (trivial))) (ih _ _ _ h)
set_option maxRecDepth 100000 in
set_option maxHeartbeats 4000000 in
theorem we_X1_growDay    (mi : bv_Mem) (z : bv_Mem) (h : f_X1_growDay  mi = some z) : bv_Ev MX1_growDay bv_X0 1 74 74 (bv_QV z) 0 [some (.ref 2), none] [] 74 (bv_mr mi) mi := by
  unfold f_X1_growDay at h
  refine ev_iconst (0 : Int32) dX1_growDay_0 (by decide) ?_
  refine ev_istore_n dX1_growDay_1 rfl rfl ?_
  exact ev_weak (by exact And.intro rfl (And.intro rfl (trivial))) (wb_X1_growDay_2  400 _ _ _ h)
theorem wm_X1_growDay    (mi : bv_Mem) (z : bv_Mem) (h : f_X1_growDay  mi = some z) : bv_Met yX1_growDay MX1_growDay bv_X0 1 74 74 [.ref 2] (bv_mr mi) mi (bv_QV z) :=
  bv_Met.of (pn_X 1 (by decide)) rfl (fun q => absurd q Bool.false_ne_true) (Nat.le_of_ble_eq_true rfl) (we_X1_growDay   mi z h)
set_option maxRecDepth 100000 in
set_option maxHeartbeats 4000000 in
theorem wb_X5_passDay_9  : ∀ (fu : Nat) (l1 : Int32) (mi : bv_Mem) (z : bv_Mem), b_X5_passDay_9 fu l1 mi = some z → bv_Ev MX5_passDay bv_X0 2 74 74 (bv_QV z) 9 [some (.ref 1), some (.int l1)] [] 74 (bv_mr mi) mi := by
  intro fu
  induction fu with
  | zero =>
    intro l1 mi z h
    rw [b_X5_passDay_9] at h
    cases h
  | succ fu ih =>
    intro l1 mi z h
    rw [b_X5_passDay_9] at h
    refine ev_iload_n dX5_passDay_9 rfl ?_
    refine ev_aload_n dX5_passDay_10 rfl ?_
    refine ev_getI lf_X5_32 dX5_passDay_11 rfl rfl ?_
    refine ev_icmp_ge 32 dX5_passDay_14 (by decide) (fun c1 => ?_) (fun c1 => ?_)
    · replace h := bv_tt c1 h
      refine ev_aload_n dX5_passDay_32 rfl ?_
      refine ev_dup dX5_passDay_33 rfl ?_
      refine ev_getI lf_X5_35 dX5_passDay_34 rfl rfl ?_
      refine ev_iconst (1 : Int32) dX5_passDay_37 (by decide) ?_
      refine ev_iadd dX5_passDay_38 ?_
      refine er_putI lf_X5_35 dX5_passDay_39 rfl rfl rfl rfl ?_
      obtain rfl := Option.some.inj h
      exact ev_vret rfl dX5_passDay_42 ⟨rfl, rfl, rfl⟩
    · replace h := bv_ff c1 h
      refine ev_aload_n dX5_passDay_17 rfl ?_
      refine ev_getR 6 lf_X5_28 dX5_passDay_18 rfl rfl rfl ?_
      refine ev_iload_n dX5_passDay_21 rfl ?_
      obtain ⟨g1, h⟩ := bv_gd h
      obtain ⟨q1, hq1, h⟩ := bv_bd h
      refine er_aald (N := 8) q1 dX5_passDay_22 rfl g1 hq1 ?_
      obtain ⟨g2, h⟩ := bv_gd h
      obtain ⟨z1, hz1, h⟩ := bv_bd h
      refine er_VV [] (fun _ _ q => q) lk_X5_80 dX5_passDay_23 rfl rfl g2 rfl rfl (wm_X0_ageDay _ _ _ hz1) ?_
      refine ev_iinc (l1 + 1) dX5_passDay_26 rfl rfl rfl rfl ?_
      refine ev_goto 9 dX5_passDay_29 (by decide) ?_
      exact ev_weak (by exact And.intro rfl (And.intro rfl (trivial))) (ih _ _ _ h)
set_option maxRecDepth 100000 in
set_option maxHeartbeats 4000000 in
theorem we_X5_passDay    (mi : bv_Mem) (z : bv_Mem) (h : f_X5_passDay  mi = some z) : bv_Ev MX5_passDay bv_X0 2 74 74 (bv_QV z) 0 [some (.ref 1), none] [] 74 (bv_mr mi) mi := by
  unfold f_X5_passDay at h
  refine ev_aload_n dX5_passDay_0 rfl ?_
  refine ev_getR 2 lf_X5_12 dX5_passDay_1 rfl rfl rfl ?_
  obtain ⟨z1, hz1, h⟩ := bv_bd h
  refine er_VV [] (fun _ _ q => q) lk_X5_77 dX5_passDay_4 rfl rfl rfl rfl rfl (wm_X1_growDay  _ _ hz1) ?_
  refine ev_iconst (0 : Int32) dX5_passDay_7 (by decide) ?_
  refine ev_istore_n dX5_passDay_8 rfl rfl ?_
  exact ev_weak (by exact And.intro rfl (And.intro rfl (trivial))) (wb_X5_passDay_9  400 _ _ _ h)
theorem wm_X5_passDay    (mi : bv_Mem) (z : bv_Mem) (h : f_X5_passDay  mi = some z) : bv_Met yX5_passDay MX5_passDay bv_X0 2 74 74 [.ref 1] (bv_mr mi) mi (bv_QV z) :=
  bv_Met.of (pn_X 5 (by decide)) rfl (fun q => absurd q Bool.false_ne_true) (Nat.le_of_ble_eq_true rfl) (we_X5_passDay   mi z h)
set_option maxRecDepth 100000 in
set_option maxHeartbeats 4000000 in
theorem wb_X7_days_39  : ∀ (fu : Nat) (l1 : Int32) (l2 : Int32) (mi : bv_Mem) (z : Int32 × bv_Mem), b_X7_days_39 fu l1 l2 mi = some z → bv_Ev MX7_days bv_X0 3 74 74 (bv_QI z) 39 [some (.ref 0), some (.int l1), some (.int l2)] [] 74 (bv_mr mi) mi := by
  intro fu
  induction fu with
  | zero =>
    intro l1 l2 mi z h
    rw [b_X7_days_39] at h
    cases h
  | succ fu ih =>
    intro l1 l2 mi z h
    rw [b_X7_days_39] at h
    refine ev_iload_n dX7_days_39 rfl ?_
    refine ev_iload_n dX7_days_40 rfl ?_
    refine ev_icmp_ge 57 dX7_days_41 (by decide) (fun c1 => ?_) (fun c1 => ?_)
    · replace h := bv_tt c1 h
      refine ev_aload_n dX7_days_57 rfl ?_
      refine ev_iconst (0 : Int32) dX7_days_58 (by decide) ?_
      obtain ⟨z1, hz1, h⟩ := bv_bd h
      refine er_VP [.int _] (fun _ _ q => q) lk_X7_216 dX7_days_59 rfl rfl rfl rfl rfl (wm_X7_missingBehind _ _ _ hz1) ?_
      obtain rfl := Option.some.inj h
      exact ev_iret rfl dX7_days_62 ⟨rfl, rfl, rfl⟩
    · replace h := bv_ff c1 h
      refine ev_aload_n dX7_days_44 rfl ?_
      refine ev_getR 1 lf_X7_10 dX7_days_45 rfl rfl rfl ?_
      obtain ⟨z2, hz2, h⟩ := bv_bd h
      refine er_VV [] (fun _ _ q => q) lk_X7_213 dX7_days_48 rfl rfl rfl rfl rfl (wm_X5_passDay  _ _ hz2) ?_
      refine ev_iinc (l2 + 1) dX7_days_51 rfl rfl rfl rfl ?_
      refine ev_goto 39 dX7_days_54 (by decide) ?_
      exact ev_weak (by exact And.intro rfl (And.intro rfl (And.intro rfl (trivial)))) (ih _ _ _ _ h)
set_option maxRecDepth 100000 in
set_option maxHeartbeats 4000000 in
theorem we_X7_days   (l1 : Int32) (mi : bv_Mem) (z : Int32 × bv_Mem) (h : f_X7_days  l1 mi = some z) : bv_Ev MX7_days bv_X0 3 74 74 (bv_QI z) 0 [some (.ref 0), some (.int l1), none] [] 74 (bv_mr mi) mi := by
  unfold f_X7_days at h
  refine ev_iload_n dX7_days_0 rfl ?_
  refine ev_iconst (1 : Int32) dX7_days_1 (by decide) ?_
  refine ev_bipush (100 : Int32) dX7_days_2 (by decide) ?_
  obtain ⟨z1, hz1, h⟩ := bv_bd h
  refine er_SP [.int _, .int _, .int _] (fun _ _ q => q) lk_X7_58 dX7_days_4 rfl rfl rfl rfl (wm_X7_isWithin _ _ _ _ _ hz1) ?_
  refine ev_if_ne 16 dX7_days_7 (by decide) (fun c1 => ?_) (fun c1 => ?_)
  · replace h := bv_ff c1 h
    refine ev_aload_n dX7_days_16 rfl ?_
    refine ev_getR 1 lf_X7_10 dX7_days_17 rfl rfl rfl ?_
    refine ev_getI lf_X7_210 dX7_days_20 rfl rfl ?_
    refine ev_iload_n dX7_days_23 rfl ?_
    refine ev_iadd dX7_days_24 ?_
    refine ev_sipush (9999 : Int32) dX7_days_25 (by decide) ?_
    refine ev_icmp_le 37 dX7_days_28 (by decide) (fun c2 => ?_) (fun c2 => ?_)
    · replace h := bv_tt c2 h
      refine ev_iconst (0 : Int32) dX7_days_37 (by decide) ?_
      refine ev_istore_n dX7_days_38 rfl rfl ?_
      exact ev_weak (by exact And.intro rfl (And.intro rfl (And.intro rfl (trivial)))) (wb_X7_days_39  400 _ _ _ _ h)
    · replace h := bv_ff c2 h
      refine ev_aload_n dX7_days_31 rfl ?_
      refine ev_iconst (3 : Int32) dX7_days_32 (by decide) ?_
      obtain ⟨z2, hz2, h⟩ := bv_bd h
      refine er_VI [.int _] (fun _ _ q => q) lk_X7_62 dX7_days_33 rfl rfl rfl rfl rfl (wm_X7_error _ _ _ hz2) ?_
      obtain rfl := Option.some.inj h
      exact ev_iret rfl dX7_days_36 ⟨rfl, rfl, rfl⟩
  · replace h := bv_tt c1 h
    refine ev_aload_n dX7_days_10 rfl ?_
    refine ev_iconst (1 : Int32) dX7_days_11 (by decide) ?_
    obtain ⟨z3, hz3, h⟩ := bv_bd h
    refine er_VI [.int _] (fun _ _ q => q) lk_X7_62 dX7_days_12 rfl rfl rfl rfl rfl (wm_X7_error _ _ _ hz3) ?_
    obtain rfl := Option.some.inj h
    exact ev_iret rfl dX7_days_15 ⟨rfl, rfl, rfl⟩
theorem wm_X7_days   (l1 : Int32) (mi : bv_Mem) (z : Int32 × bv_Mem) (h : f_X7_days  l1 mi = some z) : bv_Met yX7_days MX7_days bv_X0 3 74 74 [.ref 0, .int l1] (bv_mr mi) mi (bv_QI z) :=
  bv_Met.of (pn_X 7 (by decide)) rfl (fun q => absurd q Bool.false_ne_true) (Nat.le_of_ble_eq_true rfl) (we_X7_days   l1 mi z h)
set_option maxRecDepth 100000 in
set_option maxHeartbeats 4000000 in
theorem we_X5_draw    (mi : bv_Mem) (z : Int32 × bv_Mem) (h : f_X5_draw  mi = some z) : bv_Ev MX5_draw bv_X0 0 74 74 (bv_QI z) 0 [some (.ref 1)] [] 74 (bv_mr mi) mi := by
  unfold f_X5_draw at h
  refine ev_aload_n dX5_draw_0 rfl ?_
  refine ev_aload_n dX5_draw_1 rfl ?_
  refine ev_getI lf_X5_38 dX5_draw_2 rfl rfl ?_
  refine ev_ldc (1103515245 : Int32) dX5_draw_5 lc_X5_93 ?_
  refine ev_imul dX5_draw_7 ?_
  refine ev_sipush (12345 : Int32) dX5_draw_8 (by decide) ?_
  refine ev_iadd dX5_draw_11 ?_
  refine er_putI lf_X5_38 dX5_draw_12 rfl rfl rfl rfl ?_
  refine ev_aload_n dX5_draw_15 rfl ?_
  refine ev_getI lf_X5_38 dX5_draw_16 rfl rfl ?_
  refine ev_bipush (8 : Int32) dX5_draw_19 (by decide) ?_
  refine ev_iushr dX5_draw_21 ?_
  obtain rfl := Option.some.inj h
  exact ev_iret rfl dX5_draw_22 ⟨rfl, rfl, rfl⟩
theorem wm_X5_draw    (mi : bv_Mem) (z : Int32 × bv_Mem) (h : f_X5_draw  mi = some z) : bv_Met yX5_draw MX5_draw bv_X0 0 74 74 [.ref 1] (bv_mr mi) mi (bv_QI z) :=
  bv_Met.of (pn_X 5 (by decide)) rfl (fun q => absurd q Bool.false_ne_true) (Nat.le_of_ble_eq_true rfl) (we_X5_draw   mi z h)
set_option maxRecDepth 100000 in
set_option maxHeartbeats 4000000 in
theorem we_X5_passLooseDay    (mi : bv_Mem) (z : bv_Mem) (h : f_X5_passLooseDay  mi = some z) : bv_Ev MX5_passLooseDay bv_X0 3 74 74 (bv_QV z) 0 [some (.ref 1), none] [] 74 (bv_mr mi) mi := by
  unfold f_X5_passLooseDay at h
  refine ev_aload_n dX5_passLooseDay_0 rfl ?_
  obtain ⟨z1, hz1, h⟩ := bv_bd h
  refine er_VI [] (fun _ _ q => q) lk_X5_83 dX5_passLooseDay_1 rfl rfl rfl rfl rfl (wm_X5_draw  _ _ hz1) ?_
  refine ev_bipush (20 : Int32) dX5_passLooseDay_4 (by decide) ?_
  refine ev_irem dX5_passLooseDay_6 (by decide) ?_
  refine ev_istore_n dX5_passLooseDay_7 rfl rfl ?_
  refine ev_aload_n dX5_passLooseDay_8 rfl ?_
  refine ev_getR 2 lf_X5_12 dX5_passLooseDay_9 rfl rfl rfl ?_
  refine ev_getR 4 lf_X5_87 dX5_passLooseDay_12 rfl rfl rfl ?_
  refine ev_iload_n dX5_passLooseDay_15 rfl ?_
  refine ev_aload_n dX5_passLooseDay_16 rfl ?_
  obtain ⟨z2, hz2, h⟩ := bv_bd h
  refine er_VI [] (fun _ _ q => q) lk_X5_83 dX5_passLooseDay_17 rfl rfl rfl rfl rfl (wm_X5_draw  _ _ hz2) ?_
  refine ev_bipush (10 : Int32) dX5_passLooseDay_20 (by decide) ?_
  refine ev_irem dX5_passLooseDay_22 (by decide) ?_
  obtain ⟨g1, h⟩ := bv_gd h
  refine er_iast (N := 20) dX5_passLooseDay_23 rfl g1 ?_
  refine ev_aload_n dX5_passLooseDay_24 rfl ?_
  obtain ⟨z3, hz3, h⟩ := bv_bd h
  refine er_VV [] (fun _ _ q => q) lk_X5_90 dX5_passLooseDay_25 rfl rfl rfl rfl rfl (wm_X5_passDay  _ _ hz3) ?_
  obtain rfl := Option.some.inj h
  exact ev_vret rfl dX5_passLooseDay_28 ⟨rfl, rfl, rfl⟩
theorem wm_X5_passLooseDay    (mi : bv_Mem) (z : bv_Mem) (h : f_X5_passLooseDay  mi = some z) : bv_Met yX5_passLooseDay MX5_passLooseDay bv_X0 3 74 74 [.ref 1] (bv_mr mi) mi (bv_QV z) :=
  bv_Met.of (pn_X 5 (by decide)) rfl (fun q => absurd q Bool.false_ne_true) (Nat.le_of_ble_eq_true rfl) (we_X5_passLooseDay   mi z h)
set_option maxRecDepth 100000 in
set_option maxHeartbeats 4000000 in
theorem wb_X7_loose_39  : ∀ (fu : Nat) (l1 : Int32) (l2 : Int32) (mi : bv_Mem) (z : Int32 × bv_Mem), b_X7_loose_39 fu l1 l2 mi = some z → bv_Ev MX7_loose bv_X0 4 74 74 (bv_QI z) 39 [some (.ref 0), some (.int l1), some (.int l2)] [] 74 (bv_mr mi) mi := by
  intro fu
  induction fu with
  | zero =>
    intro l1 l2 mi z h
    rw [b_X7_loose_39] at h
    cases h
  | succ fu ih =>
    intro l1 l2 mi z h
    rw [b_X7_loose_39] at h
    refine ev_iload_n dX7_loose_39 rfl ?_
    refine ev_iload_n dX7_loose_40 rfl ?_
    refine ev_icmp_ge 57 dX7_loose_41 (by decide) (fun c1 => ?_) (fun c1 => ?_)
    · replace h := bv_tt c1 h
      refine ev_aload_n dX7_loose_57 rfl ?_
      refine ev_iconst (0 : Int32) dX7_loose_58 (by decide) ?_
      obtain ⟨z1, hz1, h⟩ := bv_bd h
      refine er_VP [.int _] (fun _ _ q => q) lk_X7_216 dX7_loose_59 rfl rfl rfl rfl rfl (wm_X7_missingBehind _ _ _ hz1) ?_
      obtain rfl := Option.some.inj h
      exact ev_iret rfl dX7_loose_62 ⟨rfl, rfl, rfl⟩
    · replace h := bv_ff c1 h
      refine ev_aload_n dX7_loose_44 rfl ?_
      refine ev_getR 1 lf_X7_10 dX7_loose_45 rfl rfl rfl ?_
      obtain ⟨z2, hz2, h⟩ := bv_bd h
      refine er_VV [] (fun _ _ q => q) lk_X7_219 dX7_loose_48 rfl rfl rfl rfl rfl (wm_X5_passLooseDay  _ _ hz2) ?_
      refine ev_iinc (l2 + 1) dX7_loose_51 rfl rfl rfl rfl ?_
      refine ev_goto 39 dX7_loose_54 (by decide) ?_
      exact ev_weak (by exact And.intro rfl (And.intro rfl (And.intro rfl (trivial)))) (ih _ _ _ _ h)
set_option maxRecDepth 100000 in
set_option maxHeartbeats 4000000 in
theorem we_X7_loose   (l1 : Int32) (mi : bv_Mem) (z : Int32 × bv_Mem) (h : f_X7_loose  l1 mi = some z) : bv_Ev MX7_loose bv_X0 4 74 74 (bv_QI z) 0 [some (.ref 0), some (.int l1), none] [] 74 (bv_mr mi) mi := by
  unfold f_X7_loose at h
  refine ev_iload_n dX7_loose_0 rfl ?_
  refine ev_iconst (1 : Int32) dX7_loose_1 (by decide) ?_
  refine ev_bipush (40 : Int32) dX7_loose_2 (by decide) ?_
  obtain ⟨z1, hz1, h⟩ := bv_bd h
  refine er_SP [.int _, .int _, .int _] (fun _ _ q => q) lk_X7_58 dX7_loose_4 rfl rfl rfl rfl (wm_X7_isWithin _ _ _ _ _ hz1) ?_
  refine ev_if_ne 16 dX7_loose_7 (by decide) (fun c1 => ?_) (fun c1 => ?_)
  · replace h := bv_ff c1 h
    refine ev_aload_n dX7_loose_16 rfl ?_
    refine ev_getR 1 lf_X7_10 dX7_loose_17 rfl rfl rfl ?_
    refine ev_getI lf_X7_210 dX7_loose_20 rfl rfl ?_
    refine ev_iload_n dX7_loose_23 rfl ?_
    refine ev_iadd dX7_loose_24 ?_
    refine ev_sipush (9999 : Int32) dX7_loose_25 (by decide) ?_
    refine ev_icmp_le 37 dX7_loose_28 (by decide) (fun c2 => ?_) (fun c2 => ?_)
    · replace h := bv_tt c2 h
      refine ev_iconst (0 : Int32) dX7_loose_37 (by decide) ?_
      refine ev_istore_n dX7_loose_38 rfl rfl ?_
      exact ev_weak (by exact And.intro rfl (And.intro rfl (And.intro rfl (trivial)))) (wb_X7_loose_39  400 _ _ _ _ h)
    · replace h := bv_ff c2 h
      refine ev_aload_n dX7_loose_31 rfl ?_
      refine ev_iconst (3 : Int32) dX7_loose_32 (by decide) ?_
      obtain ⟨z2, hz2, h⟩ := bv_bd h
      refine er_VI [.int _] (fun _ _ q => q) lk_X7_62 dX7_loose_33 rfl rfl rfl rfl rfl (wm_X7_error _ _ _ hz2) ?_
      obtain rfl := Option.some.inj h
      exact ev_iret rfl dX7_loose_36 ⟨rfl, rfl, rfl⟩
  · replace h := bv_tt c1 h
    refine ev_aload_n dX7_loose_10 rfl ?_
    refine ev_iconst (1 : Int32) dX7_loose_11 (by decide) ?_
    obtain ⟨z3, hz3, h⟩ := bv_bd h
    refine er_VI [.int _] (fun _ _ q => q) lk_X7_62 dX7_loose_12 rfl rfl rfl rfl rfl (wm_X7_error _ _ _ hz3) ?_
    obtain rfl := Option.some.inj h
    exact ev_iret rfl dX7_loose_15 ⟨rfl, rfl, rfl⟩
theorem wm_X7_loose   (l1 : Int32) (mi : bv_Mem) (z : Int32 × bv_Mem) (h : f_X7_loose  l1 mi = some z) : bv_Met yX7_loose MX7_loose bv_X0 4 74 74 [.ref 0, .int l1] (bv_mr mi) mi (bv_QI z) :=
  bv_Met.of (pn_X 7 (by decide)) rfl (fun q => absurd q Bool.false_ne_true) (Nat.le_of_ble_eq_true rfl) (we_X7_loose   l1 mi z h)
set_option maxRecDepth 100000 in
set_option maxHeartbeats 4000000 in
theorem we_X7_view   (l1 : Int32) (l2 : Int32) (l3 : Int32) (mi : bv_Mem) (z : Int32 × bv_Mem) (h : f_X7_view  l1 l2 l3 mi = some z) : bv_Ev MX7_view bv_X0 3 74 74 (bv_QI z) 0 [some (.ref 0), some (.int l1), some (.int l2), some (.int l3)] [] 74 (bv_mr mi) mi := by
  unfold f_X7_view at h
  refine ev_aload_n dX7_view_0 rfl ?_
  refine ev_iload_n dX7_view_1 rfl ?_
  obtain ⟨z1, hz1, h⟩ := bv_bd h
  refine er_VP [.int _] (fun _ _ q => q) lk_X7_103 dX7_view_2 rfl rfl rfl rfl rfl (wm_X7_isVillage _ _ _ hz1) ?_
  refine ev_if_eq 25 dX7_view_5 (by decide) (fun c1 => ?_) (fun c1 => ?_)
  · replace h := bv_tt c1 h
    refine ev_aload_n dX7_view_25 rfl ?_
    refine ev_iconst (1 : Int32) dX7_view_26 (by decide) ?_
    obtain ⟨z2, hz2, h⟩ := bv_bd h
    refine er_VI [.int _] (fun _ _ q => q) lk_X7_62 dX7_view_27 rfl rfl rfl rfl rfl (wm_X7_error _ _ _ hz2) ?_
    obtain rfl := Option.some.inj h
    exact ev_iret rfl dX7_view_30 ⟨rfl, rfl, rfl⟩
  · replace h := bv_ff c1 h
    refine ev_iload_n dX7_view_8 rfl ?_
    obtain ⟨z3, hz3, h⟩ := bv_bd h
    refine er_SP [.int _] (fun _ _ q => q) lk_X7_109 dX7_view_9 rfl rfl rfl rfl (wm_X7_isSide _ _ _ hz3) ?_
    refine ev_if_eq 25 dX7_view_12 (by decide) (fun c2 => ?_) (fun c2 => ?_)
    · replace h := bv_tt c2 h
      refine ev_aload_n dX7_view_25 rfl ?_
      refine ev_iconst (1 : Int32) dX7_view_26 (by decide) ?_
      obtain ⟨z4, hz4, h⟩ := bv_bd h
      refine er_VI [.int _] (fun _ _ q => q) lk_X7_62 dX7_view_27 rfl rfl rfl rfl rfl (wm_X7_error _ _ _ hz4) ?_
      obtain rfl := Option.some.inj h
      exact ev_iret rfl dX7_view_30 ⟨rfl, rfl, rfl⟩
    · replace h := bv_ff c2 h
      refine ev_iload_n dX7_view_15 rfl ?_
      refine ev_iconst (0 : Int32) dX7_view_16 (by decide) ?_
      refine ev_bipush (100 : Int32) dX7_view_17 (by decide) ?_
      obtain ⟨z5, hz5, h⟩ := bv_bd h
      refine er_SP [.int _, .int _, .int _] (fun _ _ q => q) lk_X7_58 dX7_view_19 rfl rfl rfl rfl (wm_X7_isWithin _ _ _ _ _ hz5) ?_
      refine ev_if_ne 31 dX7_view_22 (by decide) (fun c3 => ?_) (fun c3 => ?_)
      · replace h := bv_ff c3 h
        refine ev_aload_n dX7_view_31 rfl ?_
        refine ev_getR 1 lf_X7_10 dX7_view_32 rfl rfl rfl ?_
        refine ev_getR 2 lf_X7_66 dX7_view_35 rfl rfl rfl ?_
        refine ev_aload_n dX7_view_38 rfl ?_
        refine ev_getR 1 lf_X7_10 dX7_view_39 rfl rfl rfl ?_
        refine ev_getR 5 lf_X7_100 dX7_view_42 rfl rfl rfl ?_
        refine ev_iload_n dX7_view_45 rfl ?_
        obtain ⟨g1, h⟩ := bv_gd h
        refine ev_iald (N := 5) dX7_view_46 rfl g1 ?_
        refine ev_iload_n dX7_view_47 rfl ?_
        refine ev_aload_n dX7_view_48 rfl ?_
        refine ev_getR 1 lf_X7_10 dX7_view_49 rfl rfl rfl ?_
        refine ev_getR 2 lf_X7_66 dX7_view_52 rfl rfl rfl ?_
        refine ev_iload_n dX7_view_55 rfl ?_
        obtain ⟨z6, hz6, h⟩ := bv_bd h
        refine er_VP [.int _] (fun _ _ q => q) lk_X7_78 dX7_view_56 rfl rfl rfl rfl rfl (wm_X1_goneBehind _ _ _ hz6) ?_
        obtain ⟨z7, hz7, h⟩ := bv_bd h
        refine er_VP [.int _, .int _, .int _] (fun _ _ q => q) lk_X7_81 dX7_view_59 rfl rfl rfl rfl rfl (wm_X1_seenFrom _ _ _ _ _ hz7) ?_
        obtain rfl := Option.some.inj h
        exact ev_iret rfl dX7_view_62 ⟨rfl, rfl, rfl⟩
      · replace h := bv_tt c3 h
        refine ev_aload_n dX7_view_25 rfl ?_
        refine ev_iconst (1 : Int32) dX7_view_26 (by decide) ?_
        obtain ⟨z8, hz8, h⟩ := bv_bd h
        refine er_VI [.int _] (fun _ _ q => q) lk_X7_62 dX7_view_27 rfl rfl rfl rfl rfl (wm_X7_error _ _ _ hz8) ?_
        obtain rfl := Option.some.inj h
        exact ev_iret rfl dX7_view_30 ⟨rfl, rfl, rfl⟩
theorem wm_X7_view   (l1 : Int32) (l2 : Int32) (l3 : Int32) (mi : bv_Mem) (z : Int32 × bv_Mem) (h : f_X7_view  l1 l2 l3 mi = some z) : bv_Met yX7_view MX7_view bv_X0 3 74 74 [.ref 0, .int l1, .int l2, .int l3] (bv_mr mi) mi (bv_QI z) :=
  bv_Met.of (pn_X 7 (by decide)) rfl (fun q => absurd q Bool.false_ne_true) (Nat.le_of_ble_eq_true rfl) (we_X7_view   l1 l2 l3 mi z h)
set_option maxRecDepth 100000 in
set_option maxHeartbeats 4000000 in
theorem wb_X7_again_36  : ∀ (fu : Nat) (l1 : Int32) (l2 : Int32) (l3 : Int32) (mi : bv_Mem) (z : Int32 × bv_Mem), b_X7_again_36 fu l1 l2 l3 mi = some z → bv_Ev MX7_again bv_X0 2 74 74 (bv_QI z) 36 [some (.ref 0), some (.int l1), some (.int l2), some (.int l3)] [] 74 (bv_mr mi) mi := by
  intro fu
  induction fu with
  | zero =>
    intro l1 l2 l3 mi z h
    rw [b_X7_again_36] at h
    cases h
  | succ fu ih =>
    intro l1 l2 l3 mi z h
    rw [b_X7_again_36] at h
    refine ev_iload_n dX7_again_36 rfl ?_
    refine ev_bipush (100 : Int32) dX7_again_37 (by decide) ?_
    refine ev_icmp_gt 85 dX7_again_39 (by decide) (fun c1 => ?_) (fun c1 => ?_)
    · replace h := bv_tt c1 h
      refine ev_aload_n dX7_again_85 rfl ?_
      refine ev_iconst (2 : Int32) dX7_again_86 (by decide) ?_
      obtain ⟨z1, hz1, h⟩ := bv_bd h
      refine er_VI [.int _] (fun _ _ q => q) lk_X7_62 dX7_again_87 rfl rfl rfl rfl rfl (wm_X7_error _ _ _ hz1) ?_
      obtain rfl := Option.some.inj h
      exact ev_iret rfl dX7_again_90 ⟨rfl, rfl, rfl⟩
    · replace h := bv_ff c1 h
      refine ev_aload_n dX7_again_42 rfl ?_
      refine ev_getR 1 lf_X7_10 dX7_again_43 rfl rfl rfl ?_
      refine ev_getR 2 lf_X7_66 dX7_again_46 rfl rfl rfl ?_
      refine ev_aload_n dX7_again_49 rfl ?_
      refine ev_getR 1 lf_X7_10 dX7_again_50 rfl rfl rfl ?_
      refine ev_getR 5 lf_X7_100 dX7_again_53 rfl rfl rfl ?_
      refine ev_iload_n dX7_again_56 rfl ?_
      obtain ⟨g1, h⟩ := bv_gd h
      refine ev_iald (N := 5) dX7_again_57 rfl g1 ?_
      refine ev_iload_n dX7_again_58 rfl ?_
      refine ev_iconst (0 : Int32) dX7_again_59 (by decide) ?_
      refine ev_aload_n dX7_again_60 rfl ?_
      refine ev_getR 1 lf_X7_10 dX7_again_61 rfl rfl rfl ?_
      refine ev_getR 2 lf_X7_66 dX7_again_64 rfl rfl rfl ?_
      refine ev_iload_n dX7_again_67 rfl ?_
      obtain ⟨z2, hz2, h⟩ := bv_bd h
      refine er_VP [.int _] (fun _ _ q => q) lk_X7_78 dX7_again_68 rfl rfl rfl rfl rfl (wm_X1_goneBehind _ _ _ hz2) ?_
      obtain ⟨z3, hz3, h⟩ := bv_bd h
      refine er_VP [.int _, .int _, .int _, .int _] (fun _ _ q => q) lk_X7_222 dX7_again_71 rfl rfl rfl rfl rfl (wm_X1_sees _ _ _ _ _ _ hz3) ?_
      refine ev_if_eq 79 dX7_again_74 (by decide) (fun c2 => ?_) (fun c2 => ?_)
      · replace h := bv_tt c2 h
        refine ev_iinc (l3 + 1) dX7_again_79 rfl rfl rfl rfl ?_
        refine ev_goto 36 dX7_again_82 (by decide) ?_
        exact ev_weak (by exact And.intro rfl (And.intro rfl (And.intro rfl (And.intro rfl (trivial))))) (ih _ _ _ _ _ h)
      · replace h := bv_ff c2 h
        refine ev_iload_n dX7_again_77 rfl ?_
        obtain rfl := Option.some.inj h
        exact ev_iret rfl dX7_again_78 ⟨rfl, rfl, rfl⟩
set_option maxRecDepth 100000 in
set_option maxHeartbeats 4000000 in
theorem we_X7_again   (l1 : Int32) (l2 : Int32) (mi : bv_Mem) (z : Int32 × bv_Mem) (h : f_X7_again  l1 l2 mi = some z) : bv_Ev MX7_again bv_X0 2 74 74 (bv_QI z) 0 [some (.ref 0), some (.int l1), some (.int l2), none] [] 74 (bv_mr mi) mi := by
  unfold f_X7_again at h
  refine ev_aload_n dX7_again_0 rfl ?_
  refine ev_iload_n dX7_again_1 rfl ?_
  obtain ⟨z1, hz1, h⟩ := bv_bd h
  refine er_VP [.int _] (fun _ _ q => q) lk_X7_103 dX7_again_2 rfl rfl rfl rfl rfl (wm_X7_isVillage _ _ _ hz1) ?_
  refine ev_if_eq 28 dX7_again_5 (by decide) (fun c1 => ?_) (fun c1 => ?_)
  · replace h := bv_tt c1 h
    refine ev_aload_n dX7_again_28 rfl ?_
    refine ev_iconst (1 : Int32) dX7_again_29 (by decide) ?_
    obtain ⟨z2, hz2, h⟩ := bv_bd h
    refine er_VI [.int _] (fun _ _ q => q) lk_X7_62 dX7_again_30 rfl rfl rfl rfl rfl (wm_X7_error _ _ _ hz2) ?_
    obtain rfl := Option.some.inj h
    exact ev_iret rfl dX7_again_33 ⟨rfl, rfl, rfl⟩
  · replace h := bv_ff c1 h
    refine ev_iload_n dX7_again_8 rfl ?_
    obtain ⟨z3, hz3, h⟩ := bv_bd h
    refine er_SP [.int _] (fun _ _ q => q) lk_X7_54 dX7_again_9 rfl rfl rfl rfl (wm_X7_isPlace _ _ _ hz3) ?_
    refine ev_if_eq 28 dX7_again_12 (by decide) (fun c2 => ?_) (fun c2 => ?_)
    · replace h := bv_tt c2 h
      refine ev_aload_n dX7_again_28 rfl ?_
      refine ev_iconst (1 : Int32) dX7_again_29 (by decide) ?_
      obtain ⟨z4, hz4, h⟩ := bv_bd h
      refine er_VI [.int _] (fun _ _ q => q) lk_X7_62 dX7_again_30 rfl rfl rfl rfl rfl (wm_X7_error _ _ _ hz4) ?_
      obtain rfl := Option.some.inj h
      exact ev_iret rfl dX7_again_33 ⟨rfl, rfl, rfl⟩
    · replace h := bv_ff c2 h
      refine ev_aload_n dX7_again_15 rfl ?_
      refine ev_getR 1 lf_X7_10 dX7_again_16 rfl rfl rfl ?_
      refine ev_getR 5 lf_X7_100 dX7_again_19 rfl rfl rfl ?_
      refine ev_iload_n dX7_again_22 rfl ?_
      obtain ⟨g1, h⟩ := bv_gd h
      refine ev_iald (N := 5) dX7_again_23 rfl g1 ?_
      refine ev_iload_n dX7_again_24 rfl ?_
      refine ev_icmp_ne 34 dX7_again_25 (by decide) (fun c3 => ?_) (fun c3 => ?_)
      · replace h := bv_ff c3 h
        refine ev_iconst (0 : Int32) dX7_again_34 (by decide) ?_
        refine ev_istore_n dX7_again_35 rfl rfl ?_
        exact ev_weak (by exact And.intro rfl (And.intro rfl (And.intro rfl (And.intro rfl (trivial))))) (wb_X7_again_36  400 _ _ _ _ _ h)
      · replace h := bv_tt c3 h
        refine ev_aload_n dX7_again_28 rfl ?_
        refine ev_iconst (1 : Int32) dX7_again_29 (by decide) ?_
        obtain ⟨z5, hz5, h⟩ := bv_bd h
        refine er_VI [.int _] (fun _ _ q => q) lk_X7_62 dX7_again_30 rfl rfl rfl rfl rfl (wm_X7_error _ _ _ hz5) ?_
        obtain rfl := Option.some.inj h
        exact ev_iret rfl dX7_again_33 ⟨rfl, rfl, rfl⟩
theorem wm_X7_again   (l1 : Int32) (l2 : Int32) (mi : bv_Mem) (z : Int32 × bv_Mem) (h : f_X7_again  l1 l2 mi = some z) : bv_Met yX7_again MX7_again bv_X0 2 74 74 [.ref 0, .int l1, .int l2] (bv_mr mi) mi (bv_QI z) :=
  bv_Met.of (pn_X 7 (by decide)) rfl (fun q => absurd q Bool.false_ne_true) (Nat.le_of_ble_eq_true rfl) (we_X7_again   l1 l2 mi z h)
set_option maxRecDepth 100000 in
set_option maxHeartbeats 4000000 in
theorem wb_X7_best_35  : ∀ (fu : Nat) (l1 : Int32) (l2 : Int32) (l3 : Int32) (l4 : Int32) (l5 : Int32) (mi : bv_Mem) (z : Int32 × bv_Mem), b_X7_best_35 fu l1 l2 l3 l4 l5 mi = some z → bv_Ev MX7_best bv_X0 4 74 74 (bv_QI z) 35 [some (.ref 0), some (.int l1), some (.int l2), some (.int l3), some (.int l4), some (.int l5), none] [] 74 (bv_mr mi) mi := by
  intro fu
  induction fu with
  | zero =>
    intro l1 l2 l3 l4 l5 mi z h
    rw [b_X7_best_35] at h
    cases h
  | succ fu ih =>
    intro l1 l2 l3 l4 l5 mi z h
    rw [b_X7_best_35] at h
    refine ev_iload dX7_best_35 rfl ?_
    refine ev_bipush (20 : Int32) dX7_best_37 (by decide) ?_
    refine ev_icmp_ge 80 dX7_best_39 (by decide) (fun c1 => ?_) (fun c1 => ?_)
    · replace h := bv_tt c1 h
      refine ev_iload_n dX7_best_80 rfl ?_
      refine ev_if_ne 88 dX7_best_81 (by decide) (fun c2 => ?_) (fun c2 => ?_)
      · replace h := bv_ff c2 h
        refine ev_iload dX7_best_88 rfl ?_
        obtain rfl := Option.some.inj h
        exact ev_iret rfl dX7_best_90 ⟨rfl, rfl, rfl⟩
      · replace h := bv_tt c2 h
        refine ev_iload_n dX7_best_84 rfl ?_
        refine ev_goto 90 dX7_best_85 (by decide) ?_
        obtain rfl := Option.some.inj h
        exact ev_iret rfl dX7_best_90 ⟨rfl, rfl, rfl⟩
    · replace h := bv_ff c1 h
      refine ev_aload_n dX7_best_42 rfl ?_
      refine ev_getR 1 lf_X7_10 dX7_best_43 rfl rfl rfl ?_
      refine ev_getR 2 lf_X7_66 dX7_best_46 rfl rfl rfl ?_
      refine ev_iload dX7_best_49 rfl ?_
      refine ev_iload_n dX7_best_51 rfl ?_
      obtain ⟨z1, hz1, h⟩ := bv_bd h
      refine er_VP [.int _, .int _] (fun _ _ q => q) lk_X7_85 dX7_best_52 rfl rfl rfl rfl rfl (wm_X1_seenAround _ _ _ _ hz1) ?_
      obtain ⟨z2, hz2, h⟩ := bv_bd h
      refine er_SP [.int _] (fun _ _ q => q) lk_X7_89 dX7_best_55 rfl rfl rfl rfl (wm_J6_bitCount_0f7a4 _ _ _ hz2) ?_
      refine ev_istore dX7_best_58 rfl rfl ?_
      refine ev_iload dX7_best_60 rfl ?_
      refine ev_iload dX7_best_62 rfl ?_
      refine ev_icmp_le 74 dX7_best_64 (by decide) (fun c3 => ?_) (fun c3 => ?_)
      · replace h := bv_tt c3 h
        refine ev_iinc (l5 + 1) dX7_best_74 rfl rfl rfl rfl ?_
        refine ev_goto 35 dX7_best_77 (by decide) ?_
        exact ev_weak (by exact And.intro rfl (And.intro rfl (And.intro rfl (And.intro rfl (And.intro rfl (And.intro rfl (trivial))))))) (ih _ _ _ _ _ _ _ h)
      · replace h := bv_ff c3 h
        refine ev_iload dX7_best_67 rfl ?_
        refine ev_istore dX7_best_69 rfl rfl ?_
        refine ev_iload dX7_best_71 rfl ?_
        refine ev_istore_n dX7_best_73 rfl rfl ?_
        refine ev_iinc (l5 + 1) dX7_best_74 rfl rfl rfl rfl ?_
        refine ev_goto 35 dX7_best_77 (by decide) ?_
        exact ev_weak (by exact And.intro rfl (And.intro rfl (And.intro rfl (And.intro rfl (And.intro rfl (And.intro rfl (trivial))))))) (ih _ _ _ _ _ _ _ h)
set_option maxRecDepth 100000 in
set_option maxHeartbeats 4000000 in
theorem we_X7_best   (l1 : Int32) (mi : bv_Mem) (z : Int32 × bv_Mem) (h : f_X7_best  l1 mi = some z) : bv_Ev MX7_best bv_X0 4 74 74 (bv_QI z) 0 [some (.ref 0), some (.int l1), none, none, none, none, none] [] 74 (bv_mr mi) mi := by
  unfold f_X7_best at h
  refine ev_iload_n dX7_best_0 rfl ?_
  refine ev_iconst (0 : Int32) dX7_best_1 (by decide) ?_
  refine ev_iconst (1 : Int32) dX7_best_2 (by decide) ?_
  obtain ⟨z1, hz1, h⟩ := bv_bd h
  refine er_SP [.int _, .int _, .int _] (fun _ _ q => q) lk_X7_58 dX7_best_3 rfl rfl rfl rfl (wm_X7_isWithin _ _ _ _ _ hz1) ?_
  refine ev_if_ne 15 dX7_best_6 (by decide) (fun c1 => ?_) (fun c1 => ?_)
  · replace h := bv_ff c1 h
    refine ev_aload_n dX7_best_15 rfl ?_
    refine ev_getR 1 lf_X7_10 dX7_best_16 rfl rfl rfl ?_
    refine ev_getR 2 lf_X7_66 dX7_best_19 rfl rfl rfl ?_
    refine ev_iconst (0 : Int32) dX7_best_22 (by decide) ?_
    obtain ⟨z2, hz2, h⟩ := bv_bd h
    refine er_VP [.int _] (fun _ _ q => q) lk_X7_78 dX7_best_23 rfl rfl rfl rfl rfl (wm_X1_goneBehind _ _ _ hz2) ?_
    refine ev_istore_n dX7_best_26 rfl rfl ?_
    refine ev_iconst (0 : Int32) dX7_best_27 (by decide) ?_
    refine ev_istore_n dX7_best_28 rfl rfl ?_
    refine ev_iconst (-1 : Int32) dX7_best_29 (by decide) ?_
    refine ev_istore dX7_best_30 rfl rfl ?_
    refine ev_iconst (0 : Int32) dX7_best_32 (by decide) ?_
    refine ev_istore dX7_best_33 rfl rfl ?_
    exact ev_weak (by exact And.intro rfl (And.intro rfl (And.intro rfl (And.intro rfl (And.intro rfl (And.intro rfl (trivial))))))) (wb_X7_best_35  400 _ _ _ _ _ _ _ h)
  · replace h := bv_tt c1 h
    refine ev_aload_n dX7_best_9 rfl ?_
    refine ev_iconst (1 : Int32) dX7_best_10 (by decide) ?_
    obtain ⟨z3, hz3, h⟩ := bv_bd h
    refine er_VI [.int _] (fun _ _ q => q) lk_X7_62 dX7_best_11 rfl rfl rfl rfl rfl (wm_X7_error _ _ _ hz3) ?_
    obtain rfl := Option.some.inj h
    exact ev_iret rfl dX7_best_14 ⟨rfl, rfl, rfl⟩
theorem wm_X7_best   (l1 : Int32) (mi : bv_Mem) (z : Int32 × bv_Mem) (h : f_X7_best  l1 mi = some z) : bv_Met yX7_best MX7_best bv_X0 4 74 74 [.ref 0, .int l1] (bv_mr mi) mi (bv_QI z) :=
  bv_Met.of (pn_X 7 (by decide)) rfl (fun q => absurd q Bool.false_ne_true) (Nat.le_of_ble_eq_true rfl) (we_X7_best   l1 mi z h)
set_option maxRecDepth 100000 in
set_option maxHeartbeats 4000000 in
theorem wb_X7_tower_40  : ∀ (fu : Nat) (l1 : Int32) (l2 : Int32) (l3 : Int32) (l4 : Int32) (mi : bv_Mem) (z : Int32 × bv_Mem), b_X7_tower_40 fu l1 l2 l3 l4 mi = some z → bv_Ev MX7_tower bv_X0 2 74 74 (bv_QI z) 40 [some (.ref 0), some (.int l1), some (.int l2), some (.int l3), some (.int l4)] [] 74 (bv_mr mi) mi := by
  intro fu
  induction fu with
  | zero =>
    intro l1 l2 l3 l4 mi z h
    rw [b_X7_tower_40] at h
    cases h
  | succ fu ih =>
    intro l1 l2 l3 l4 mi z h
    rw [b_X7_tower_40] at h
    refine ev_iload dX7_tower_40 rfl ?_
    refine ev_bipush (40 : Int32) dX7_tower_42 (by decide) ?_
    refine ev_icmp_gt 74 dX7_tower_44 (by decide) (fun c1 => ?_) (fun c1 => ?_)
    · replace h := bv_tt c1 h
      refine ev_aload_n dX7_tower_74 rfl ?_
      refine ev_iconst (2 : Int32) dX7_tower_75 (by decide) ?_
      obtain ⟨z1, hz1, h⟩ := bv_bd h
      refine er_VI [.int _] (fun _ _ q => q) lk_X7_62 dX7_tower_76 rfl rfl rfl rfl rfl (wm_X7_error _ _ _ hz1) ?_
      obtain rfl := Option.some.inj h
      exact ev_iret rfl dX7_tower_79 ⟨rfl, rfl, rfl⟩
    · replace h := bv_ff c1 h
      refine ev_aload_n dX7_tower_47 rfl ?_
      refine ev_getR 1 lf_X7_10 dX7_tower_48 rfl rfl rfl ?_
      refine ev_getR 2 lf_X7_66 dX7_tower_51 rfl rfl rfl ?_
      refine ev_iload_n dX7_tower_54 rfl ?_
      refine ev_iload_n dX7_tower_55 rfl ?_
      refine ev_iload dX7_tower_56 rfl ?_
      refine ev_iload_n dX7_tower_58 rfl ?_
      obtain ⟨z2, hz2, h⟩ := bv_bd h
      refine er_VP [.int _, .int _, .int _, .int _] (fun _ _ q => q) lk_X7_222 dX7_tower_59 rfl rfl rfl rfl rfl (wm_X1_sees _ _ _ _ _ _ hz2) ?_
      refine ev_if_eq 68 dX7_tower_62 (by decide) (fun c2 => ?_) (fun c2 => ?_)
      · replace h := bv_tt c2 h
        refine ev_iinc (l4 + 1) dX7_tower_68 rfl rfl rfl rfl ?_
        refine ev_goto 40 dX7_tower_71 (by decide) ?_
        exact ev_weak (by exact And.intro rfl (And.intro rfl (And.intro rfl (And.intro rfl (And.intro rfl (trivial)))))) (ih _ _ _ _ _ _ h)
      · replace h := bv_ff c2 h
        refine ev_iload dX7_tower_65 rfl ?_
        obtain rfl := Option.some.inj h
        exact ev_iret rfl dX7_tower_67 ⟨rfl, rfl, rfl⟩
set_option maxRecDepth 100000 in
set_option maxHeartbeats 4000000 in
theorem we_X7_tower   (l1 : Int32) (l2 : Int32) (mi : bv_Mem) (z : Int32 × bv_Mem) (h : f_X7_tower  l1 l2 mi = some z) : bv_Ev MX7_tower bv_X0 2 74 74 (bv_QI z) 0 [some (.ref 0), some (.int l1), some (.int l2), none, none] [] 74 (bv_mr mi) mi := by
  unfold f_X7_tower at h
  refine ev_iload_n dX7_tower_0 rfl ?_
  obtain ⟨z1, hz1, h⟩ := bv_bd h
  refine er_SP [.int _] (fun _ _ q => q) lk_X7_54 dX7_tower_1 rfl rfl rfl rfl (wm_X7_isPlace _ _ _ hz1) ?_
  refine ev_if_eq 19 dX7_tower_4 (by decide) (fun c1 => ?_) (fun c1 => ?_)
  · replace h := bv_tt c1 h
    refine ev_aload_n dX7_tower_19 rfl ?_
    refine ev_iconst (1 : Int32) dX7_tower_20 (by decide) ?_
    obtain ⟨z2, hz2, h⟩ := bv_bd h
    refine er_VI [.int _] (fun _ _ q => q) lk_X7_62 dX7_tower_21 rfl rfl rfl rfl rfl (wm_X7_error _ _ _ hz2) ?_
    obtain rfl := Option.some.inj h
    exact ev_iret rfl dX7_tower_24 ⟨rfl, rfl, rfl⟩
  · replace h := bv_ff c1 h
    refine ev_iload_n dX7_tower_7 rfl ?_
    obtain ⟨z3, hz3, h⟩ := bv_bd h
    refine er_SP [.int _] (fun _ _ q => q) lk_X7_54 dX7_tower_8 rfl rfl rfl rfl (wm_X7_isPlace _ _ _ hz3) ?_
    refine ev_if_eq 19 dX7_tower_11 (by decide) (fun c2 => ?_) (fun c2 => ?_)
    · replace h := bv_tt c2 h
      refine ev_aload_n dX7_tower_19 rfl ?_
      refine ev_iconst (1 : Int32) dX7_tower_20 (by decide) ?_
      obtain ⟨z4, hz4, h⟩ := bv_bd h
      refine er_VI [.int _] (fun _ _ q => q) lk_X7_62 dX7_tower_21 rfl rfl rfl rfl rfl (wm_X7_error _ _ _ hz4) ?_
      obtain rfl := Option.some.inj h
      exact ev_iret rfl dX7_tower_24 ⟨rfl, rfl, rfl⟩
    · replace h := bv_ff c2 h
      refine ev_iload_n dX7_tower_14 rfl ?_
      refine ev_iload_n dX7_tower_15 rfl ?_
      refine ev_icmp_ne 25 dX7_tower_16 (by decide) (fun c3 => ?_) (fun c3 => ?_)
      · replace h := bv_ff c3 h
        refine ev_aload_n dX7_tower_25 rfl ?_
        refine ev_getR 1 lf_X7_10 dX7_tower_26 rfl rfl rfl ?_
        refine ev_getR 2 lf_X7_66 dX7_tower_29 rfl rfl rfl ?_
        refine ev_iconst (0 : Int32) dX7_tower_32 (by decide) ?_
        obtain ⟨z5, hz5, h⟩ := bv_bd h
        refine er_VP [.int _] (fun _ _ q => q) lk_X7_78 dX7_tower_33 rfl rfl rfl rfl rfl (wm_X1_goneBehind _ _ _ hz5) ?_
        refine ev_istore_n dX7_tower_36 rfl rfl ?_
        refine ev_iconst (0 : Int32) dX7_tower_37 (by decide) ?_
        refine ev_istore dX7_tower_38 rfl rfl ?_
        exact ev_weak (by exact And.intro rfl (And.intro rfl (And.intro rfl (And.intro rfl (And.intro rfl (trivial)))))) (wb_X7_tower_40  400 _ _ _ _ _ _ h)
      · replace h := bv_tt c3 h
        refine ev_aload_n dX7_tower_19 rfl ?_
        refine ev_iconst (1 : Int32) dX7_tower_20 (by decide) ?_
        obtain ⟨z6, hz6, h⟩ := bv_bd h
        refine er_VI [.int _] (fun _ _ q => q) lk_X7_62 dX7_tower_21 rfl rfl rfl rfl rfl (wm_X7_error _ _ _ hz6) ?_
        obtain rfl := Option.some.inj h
        exact ev_iret rfl dX7_tower_24 ⟨rfl, rfl, rfl⟩
theorem wm_X7_tower   (l1 : Int32) (l2 : Int32) (mi : bv_Mem) (z : Int32 × bv_Mem) (h : f_X7_tower  l1 l2 mi = some z) : bv_Met yX7_tower MX7_tower bv_X0 2 74 74 [.ref 0, .int l1, .int l2] (bv_mr mi) mi (bv_QI z) :=
  bv_Met.of (pn_X 7 (by decide)) rfl (fun q => absurd q Bool.false_ne_true) (Nat.le_of_ble_eq_true rfl) (we_X7_tower   l1 l2 mi z h)
set_option maxRecDepth 100000 in
set_option maxHeartbeats 4000000 in
theorem wb_X7_mutual_32 (mi : bv_Mem) (k_16 : Int32 → Int32 → Int32 → Option (Int32)) (hk_16 : ∀ (l1 : Int32) (l2 : Int32) (l3 : Int32) (z : Int32), k_16 l1 l2 l3 = some z → bv_Ev MX7_mutual bv_X0 2 74 74 (bv_QP z mi) 16 [some (.ref 0), some (.int l1), some (.int l2), some (.int l3), none, none, none] [] 74 (bv_mr mi) mi) : ∀ (fu : Nat) (l1 : Int32) (l2 : Int32) (l3 : Int32) (l4 : Int32) (z : Int32), b_X7_mutual_32 mi k_16 fu l1 l2 l3 l4 = some z → bv_Ev MX7_mutual bv_X0 2 74 74 (bv_QP z mi) 32 [some (.ref 0), some (.int l1), some (.int l2), some (.int l3), some (.int l4), none, none] [] 74 (bv_mr mi) mi := by
  intro fu
  induction fu with
  | zero =>
    intro l1 l2 l3 l4 z h
    rw [b_X7_mutual_32] at h
    cases h
  | succ fu ih =>
    intro l1 l2 l3 l4 z h
    rw [b_X7_mutual_32] at h
    refine ev_iload dX7_mutual_32 rfl ?_
    refine ev_aload_n dX7_mutual_34 rfl ?_
    refine ev_getR 1 lf_X7_10 dX7_mutual_35 rfl rfl rfl ?_
    refine ev_getI lf_X7_97 dX7_mutual_38 rfl rfl ?_
    refine ev_icmp_ge 114 dX7_mutual_41 (by decide) (fun c1 => ?_) (fun c1 => ?_)
    · replace h := bv_tt c1 h
      refine ev_iinc (l3 + 1) dX7_mutual_114 rfl rfl rfl rfl ?_
      refine ev_goto 16 dX7_mutual_117 (by decide) ?_
      exact ev_weak (by exact And.intro rfl (And.intro rfl (And.intro rfl (And.intro rfl (trivial))))) (hk_16 _ _ _ _ h)
    · replace h := bv_ff c1 h
      refine ev_aload_n dX7_mutual_44 rfl ?_
      refine ev_getR 1 lf_X7_10 dX7_mutual_45 rfl rfl rfl ?_
      refine ev_getR 5 lf_X7_100 dX7_mutual_48 rfl rfl rfl ?_
      refine ev_iload_n dX7_mutual_51 rfl ?_
      obtain ⟨g1, h⟩ := bv_gd h
      refine ev_iald (N := 5) dX7_mutual_52 rfl g1 ?_
      refine ev_istore dX7_mutual_53 rfl rfl ?_
      refine ev_aload_n dX7_mutual_55 rfl ?_
      refine ev_getR 1 lf_X7_10 dX7_mutual_56 rfl rfl rfl ?_
      refine ev_getR 5 lf_X7_100 dX7_mutual_59 rfl rfl rfl ?_
      refine ev_iload dX7_mutual_62 rfl ?_
      obtain ⟨g2, h⟩ := bv_gd h
      refine ev_iald (N := 5) dX7_mutual_64 rfl g2 ?_
      refine ev_istore dX7_mutual_65 rfl rfl ?_
      refine ev_aload_n dX7_mutual_67 rfl ?_
      refine ev_getR 1 lf_X7_10 dX7_mutual_68 rfl rfl rfl ?_
      refine ev_getR 2 lf_X7_66 dX7_mutual_71 rfl rfl rfl ?_
      refine ev_iload dX7_mutual_74 rfl ?_
      refine ev_iload dX7_mutual_76 rfl ?_
      refine ev_iconst (0 : Int32) dX7_mutual_78 (by decide) ?_
      refine ev_iload_n dX7_mutual_79 rfl ?_
      obtain ⟨z1, hz1, h⟩ := bv_bd h
      refine er_VP [.int _, .int _, .int _, .int _] (fun _ _ q => q) lk_X7_222 dX7_mutual_80 rfl rfl rfl rfl rfl (wm_X1_sees _ _ _ _ _ _ hz1) ?_
      refine ev_if_eq 108 dX7_mutual_83 (by decide) (fun c2 => ?_) (fun c2 => ?_)
      · replace h := bv_tt c2 h
        refine ev_iinc (l4 + 1) dX7_mutual_108 rfl rfl rfl rfl ?_
        refine ev_goto 32 dX7_mutual_111 (by decide) ?_
        exact ev_weak (by exact And.intro rfl (And.intro rfl (And.intro rfl (And.intro rfl (And.intro rfl (trivial)))))) (ih _ _ _ _ _ h)
      · replace h := bv_ff c2 h
        refine ev_aload_n dX7_mutual_86 rfl ?_
        refine ev_getR 1 lf_X7_10 dX7_mutual_87 rfl rfl rfl ?_
        refine ev_getR 2 lf_X7_66 dX7_mutual_90 rfl rfl rfl ?_
        refine ev_iload dX7_mutual_93 rfl ?_
        refine ev_iload dX7_mutual_95 rfl ?_
        refine ev_iconst (0 : Int32) dX7_mutual_97 (by decide) ?_
        refine ev_iload_n dX7_mutual_98 rfl ?_
        obtain ⟨z2, hz2, h⟩ := bv_bd h
        refine er_VP [.int _, .int _, .int _, .int _] (fun _ _ q => q) lk_X7_222 dX7_mutual_99 rfl rfl rfl rfl rfl (wm_X1_sees _ _ _ _ _ _ hz2) ?_
        refine ev_if_eq 108 dX7_mutual_102 (by decide) (fun c3 => ?_) (fun c3 => ?_)
        · replace h := bv_tt c3 h
          refine ev_iinc (l4 + 1) dX7_mutual_108 rfl rfl rfl rfl ?_
          refine ev_goto 32 dX7_mutual_111 (by decide) ?_
          exact ev_weak (by exact And.intro rfl (And.intro rfl (And.intro rfl (And.intro rfl (And.intro rfl (trivial)))))) (ih _ _ _ _ _ h)
        · replace h := bv_ff c3 h
          refine ev_iinc (l2 + 1) dX7_mutual_105 rfl rfl rfl rfl ?_
          refine ev_iinc (l4 + 1) dX7_mutual_108 rfl rfl rfl rfl ?_
          refine ev_goto 32 dX7_mutual_111 (by decide) ?_
          exact ev_weak (by exact And.intro rfl (And.intro rfl (And.intro rfl (And.intro rfl (And.intro rfl (trivial)))))) (ih _ _ _ _ _ h)
set_option maxRecDepth 100000 in
set_option maxHeartbeats 4000000 in
theorem wb_X7_mutual_16 (mi : bv_Mem) : ∀ (fu : Nat) (l1 : Int32) (l2 : Int32) (l3 : Int32) (z : Int32), b_X7_mutual_16 mi fu l1 l2 l3 = some z → bv_Ev MX7_mutual bv_X0 2 74 74 (bv_QP z mi) 16 [some (.ref 0), some (.int l1), some (.int l2), some (.int l3), none, none, none] [] 74 (bv_mr mi) mi := by
  intro fu
  induction fu with
  | zero =>
    intro l1 l2 l3 z h
    rw [b_X7_mutual_16] at h
    cases h
  | succ fu ih =>
    intro l1 l2 l3 z h
    rw [b_X7_mutual_16] at h
    refine ev_iload_n dX7_mutual_16 rfl ?_
    refine ev_aload_n dX7_mutual_17 rfl ?_
    refine ev_getR 1 lf_X7_10 dX7_mutual_18 rfl rfl rfl ?_
    refine ev_getI lf_X7_97 dX7_mutual_21 rfl rfl ?_
    refine ev_icmp_ge 120 dX7_mutual_24 (by decide) (fun c1 => ?_) (fun c1 => ?_)
    · replace h := bv_tt c1 h
      refine ev_iload_n dX7_mutual_120 rfl ?_
      obtain rfl := Option.some.inj h
      exact ev_iret rfl dX7_mutual_121 ⟨rfl, rfl, rfl⟩
    · replace h := bv_ff c1 h
      refine ev_iload_n dX7_mutual_27 rfl ?_
      refine ev_iconst (1 : Int32) dX7_mutual_28 (by decide) ?_
      refine ev_iadd dX7_mutual_29 ?_
      refine ev_istore dX7_mutual_30 rfl rfl ?_
      exact ev_weak (by exact And.intro rfl (And.intro rfl (And.intro rfl (And.intro rfl (And.intro rfl (trivial)))))) (wb_X7_mutual_32 mi (b_X7_mutual_16 mi fu) ih 400 _ _ _ _ _ h)
set_option maxRecDepth 100000 in
set_option maxHeartbeats 4000000 in
theorem we_X7_mutual    (mi : bv_Mem) (z : Int32) (h : f_X7_mutual  mi = some z) : bv_Ev MX7_mutual bv_X0 2 74 74 (bv_QP z mi) 0 [some (.ref 0), none, none, none, none, none, none] [] 74 (bv_mr mi) mi := by
  unfold f_X7_mutual at h
  refine ev_aload_n dX7_mutual_0 rfl ?_
  refine ev_getR 1 lf_X7_10 dX7_mutual_1 rfl rfl rfl ?_
  refine ev_getR 2 lf_X7_66 dX7_mutual_4 rfl rfl rfl ?_
  refine ev_iconst (0 : Int32) dX7_mutual_7 (by decide) ?_
  obtain ⟨z1, hz1, h⟩ := bv_bd h
  refine er_VP [.int _] (fun _ _ q => q) lk_X7_78 dX7_mutual_8 rfl rfl rfl rfl rfl (wm_X1_goneBehind _ _ _ hz1) ?_
  refine ev_istore_n dX7_mutual_11 rfl rfl ?_
  refine ev_iconst (0 : Int32) dX7_mutual_12 (by decide) ?_
  refine ev_istore_n dX7_mutual_13 rfl rfl ?_
  refine ev_iconst (0 : Int32) dX7_mutual_14 (by decide) ?_
  refine ev_istore_n dX7_mutual_15 rfl rfl ?_
  exact ev_weak (by exact And.intro rfl (And.intro rfl (And.intro rfl (And.intro rfl (trivial))))) (wb_X7_mutual_16 mi 400 _ _ _ _ h)
theorem wm_X7_mutual    (mi : bv_Mem) (z : Int32) (h : f_X7_mutual  mi = some z) : bv_Met yX7_mutual MX7_mutual bv_X0 2 74 74 [.ref 0] (bv_mr mi) mi (bv_QP z mi) :=
  bv_Met.of (pn_X 7 (by decide)) rfl (fun q => absurd q Bool.false_ne_true) (Nat.le_of_ble_eq_true rfl) (we_X7_mutual   mi z h)
set_option maxRecDepth 100000 in
set_option maxHeartbeats 4000000 in
theorem wb_X5_seenByAll_14 (mi : bv_Mem) : ∀ (fu : Nat) (l1 : Int32) (l2 : Int32) (l3 : Int32) (l4 : Int32) (z : Int32), b_X5_seenByAll_14 mi fu l1 l2 l3 l4 = some z → bv_Ev MX5_seenByAll bv_X0 3 74 74 (bv_QP z mi) 14 [some (.ref 1), some (.int l1), some (.int l2), some (.int l3), some (.int l4)] [] 74 (bv_mr mi) mi := by
  intro fu
  induction fu with
  | zero =>
    intro l1 l2 l3 l4 z h
    rw [b_X5_seenByAll_14] at h
    cases h
  | succ fu ih =>
    intro l1 l2 l3 l4 z h
    rw [b_X5_seenByAll_14] at h
    refine ev_iload dX5_seenByAll_14 rfl ?_
    refine ev_aload_n dX5_seenByAll_16 rfl ?_
    refine ev_getI lf_X5_22 dX5_seenByAll_17 rfl rfl ?_
    refine ev_icmp_ge 48 dX5_seenByAll_20 (by decide) (fun c1 => ?_) (fun c1 => ?_)
    · replace h := bv_tt c1 h
      refine ev_iload_n dX5_seenByAll_48 rfl ?_
      obtain rfl := Option.some.inj h
      exact ev_iret rfl dX5_seenByAll_49 ⟨rfl, rfl, rfl⟩
    · replace h := bv_ff c1 h
      refine ev_iload_n dX5_seenByAll_23 rfl ?_
      refine ev_aload_n dX5_seenByAll_24 rfl ?_
      refine ev_getR 2 lf_X5_12 dX5_seenByAll_25 rfl rfl rfl ?_
      refine ev_aload_n dX5_seenByAll_28 rfl ?_
      refine ev_getR 5 lf_X5_18 dX5_seenByAll_29 rfl rfl rfl ?_
      refine ev_iload dX5_seenByAll_32 rfl ?_
      obtain ⟨g1, h⟩ := bv_gd h
      refine ev_iald (N := 5) dX5_seenByAll_34 rfl g1 ?_
      refine ev_iload_n dX5_seenByAll_35 rfl ?_
      refine ev_iload_n dX5_seenByAll_36 rfl ?_
      obtain ⟨z1, hz1, h⟩ := bv_bd h
      refine er_VP [.int _, .int _, .int _] (fun _ _ q => q) lk_X5_65 dX5_seenByAll_37 rfl rfl rfl rfl rfl (wm_X1_seenFrom _ _ _ _ _ hz1) ?_
      refine ev_ior dX5_seenByAll_40 ?_
      refine ev_istore_n dX5_seenByAll_41 rfl rfl ?_
      refine ev_iinc (l4 + 1) dX5_seenByAll_42 rfl rfl rfl rfl ?_
      refine ev_goto 14 dX5_seenByAll_45 (by decide) ?_
      exact ev_weak (by exact And.intro rfl (And.intro rfl (And.intro rfl (And.intro rfl (And.intro rfl (trivial)))))) (ih _ _ _ _ _ h)
set_option maxRecDepth 100000 in
set_option maxHeartbeats 4000000 in
theorem we_X5_seenByAll   (l1 : Int32) (mi : bv_Mem) (z : Int32) (h : f_X5_seenByAll  l1 mi = some z) : bv_Ev MX5_seenByAll bv_X0 3 74 74 (bv_QP z mi) 0 [some (.ref 1), some (.int l1), none, none, none] [] 74 (bv_mr mi) mi := by
  unfold f_X5_seenByAll at h
  refine ev_aload_n dX5_seenByAll_0 rfl ?_
  refine ev_getR 2 lf_X5_12 dX5_seenByAll_1 rfl rfl rfl ?_
  refine ev_iconst (0 : Int32) dX5_seenByAll_4 (by decide) ?_
  obtain ⟨z1, hz1, h⟩ := bv_bd h
  refine er_VP [.int _] (fun _ _ q => q) lk_X5_61 dX5_seenByAll_5 rfl rfl rfl rfl rfl (wm_X1_goneBehind _ _ _ hz1) ?_
  refine ev_istore_n dX5_seenByAll_8 rfl rfl ?_
  refine ev_iconst (0 : Int32) dX5_seenByAll_9 (by decide) ?_
  refine ev_istore_n dX5_seenByAll_10 rfl rfl ?_
  refine ev_iconst (0 : Int32) dX5_seenByAll_11 (by decide) ?_
  refine ev_istore dX5_seenByAll_12 rfl rfl ?_
  exact ev_weak (by exact And.intro rfl (And.intro rfl (And.intro rfl (And.intro rfl (And.intro rfl (trivial)))))) (wb_X5_seenByAll_14 mi 400 _ _ _ _ _ h)
theorem wm_X5_seenByAll   (l1 : Int32) (mi : bv_Mem) (z : Int32) (h : f_X5_seenByAll  l1 mi = some z) : bv_Met yX5_seenByAll MX5_seenByAll bv_X0 3 74 74 [.ref 1, .int l1] (bv_mr mi) mi (bv_QP z mi) :=
  bv_Met.of (pn_X 5 (by decide)) rfl (fun q => absurd q Bool.false_ne_true) (Nat.le_of_ble_eq_true rfl) (we_X5_seenByAll   l1 mi z h)
set_option maxRecDepth 100000 in
set_option maxHeartbeats 4000000 in
theorem wb_X7_unseen_20 (mi : bv_Mem) : ∀ (fu : Nat) (l1 : Int32) (l2 : Int32) (z : Int32), b_X7_unseen_20 mi fu l1 l2 = some z → bv_Ev MX7_unseen bv_X0 4 74 74 (bv_QP z mi) 20 [some (.ref 0), some (.int l1), some (.int l2)] [] 74 (bv_mr mi) mi := by
  intro fu
  induction fu with
  | zero =>
    intro l1 l2 z h
    rw [b_X7_unseen_20] at h
    cases h
  | succ fu ih =>
    intro l1 l2 z h
    rw [b_X7_unseen_20] at h
    refine ev_iload_n dX7_unseen_20 rfl ?_
    refine ev_aload_n dX7_unseen_21 rfl ?_
    refine ev_getR 1 lf_X7_10 dX7_unseen_22 rfl rfl rfl ?_
    refine ev_getI lf_X7_97 dX7_unseen_25 rfl rfl ?_
    refine ev_icmp_ge 51 dX7_unseen_28 (by decide) (fun c1 => ?_) (fun c1 => ?_)
    · replace h := bv_tt c1 h
      refine ev_ldc (1048575 : Int32) dX7_unseen_51 lc_X7_229 ?_
      refine ev_iload_n dX7_unseen_53 rfl ?_
      refine ev_iconst (-1 : Int32) dX7_unseen_54 (by decide) ?_
      refine ev_ixor dX7_unseen_55 ?_
      refine ev_iand dX7_unseen_56 ?_
      obtain rfl := Option.some.inj h
      exact ev_iret rfl dX7_unseen_57 ⟨rfl, rfl, rfl⟩
    · replace h := bv_ff c1 h
      refine ev_iload_n dX7_unseen_31 rfl ?_
      refine ev_iconst (1 : Int32) dX7_unseen_32 (by decide) ?_
      refine ev_aload_n dX7_unseen_33 rfl ?_
      refine ev_getR 1 lf_X7_10 dX7_unseen_34 rfl rfl rfl ?_
      refine ev_getR 5 lf_X7_100 dX7_unseen_37 rfl rfl rfl ?_
      refine ev_iload_n dX7_unseen_40 rfl ?_
      obtain ⟨g1, h⟩ := bv_gd h
      refine ev_iald (N := 5) dX7_unseen_41 rfl g1 ?_
      refine ev_ishl dX7_unseen_42 ?_
      refine ev_ior dX7_unseen_43 ?_
      refine ev_istore_n dX7_unseen_44 rfl rfl ?_
      refine ev_iinc (l2 + 1) dX7_unseen_45 rfl rfl rfl rfl ?_
      refine ev_goto 20 dX7_unseen_48 (by decide) ?_
      exact ev_weak (by exact And.intro rfl (And.intro rfl (And.intro rfl (trivial)))) (ih _ _ _ h)
set_option maxRecDepth 100000 in
set_option maxHeartbeats 4000000 in
theorem we_X7_unseen    (mi : bv_Mem) (z : Int32) (h : f_X7_unseen  mi = some z) : bv_Ev MX7_unseen bv_X0 4 74 74 (bv_QP z mi) 0 [some (.ref 0), none, none] [] 74 (bv_mr mi) mi := by
  unfold f_X7_unseen at h
  refine ev_aload_n dX7_unseen_0 rfl ?_
  refine ev_getR 1 lf_X7_10 dX7_unseen_1 rfl rfl rfl ?_
  refine ev_iconst (0 : Int32) dX7_unseen_4 (by decide) ?_
  obtain ⟨z1, hz1, h⟩ := bv_bd h
  refine er_VP [.int _] (fun _ _ q => q) lk_X7_226 dX7_unseen_5 rfl rfl rfl rfl rfl (wm_X5_seenByAll _ _ _ hz1) ?_
  refine ev_aload_n dX7_unseen_8 rfl ?_
  refine ev_getR 1 lf_X7_10 dX7_unseen_9 rfl rfl rfl ?_
  refine ev_iconst (1 : Int32) dX7_unseen_12 (by decide) ?_
  obtain ⟨z2, hz2, h⟩ := bv_bd h
  refine er_VP [.int _] (fun _ _ q => q) lk_X7_226 dX7_unseen_13 rfl rfl rfl rfl rfl (wm_X5_seenByAll _ _ _ hz2) ?_
  refine ev_ior dX7_unseen_16 ?_
  refine ev_istore_n dX7_unseen_17 rfl rfl ?_
  refine ev_iconst (0 : Int32) dX7_unseen_18 (by decide) ?_
  refine ev_istore_n dX7_unseen_19 rfl rfl ?_
  exact ev_weak (by exact And.intro rfl (And.intro rfl (And.intro rfl (trivial)))) (wb_X7_unseen_20 mi 400 _ _ _ h)
theorem wm_X7_unseen    (mi : bv_Mem) (z : Int32) (h : f_X7_unseen  mi = some z) : bv_Met yX7_unseen MX7_unseen bv_X0 4 74 74 [.ref 0] (bv_mr mi) mi (bv_QP z mi) :=
  bv_Met.of (pn_X 7 (by decide)) rfl (fun q => absurd q Bool.false_ne_true) (Nat.le_of_ble_eq_true rfl) (we_X7_unseen   mi z h)
set_option maxRecDepth 100000 in
set_option maxHeartbeats 4000000 in
theorem wb_X7_leftInAny_4 (mi : bv_Mem) : ∀ (fu : Nat) (l1 : Int32) (l2 : Int32) (l3 : Int32) (z : Int32), b_X7_leftInAny_4 mi fu l1 l2 l3 = some z → bv_Ev MX7_leftInAny bv_X0 0 74 74 (bv_QP z mi) 4 [some (.ref 0), some (.int l1), some (.int l2), some (.int l3)] [] 74 (bv_mr mi) mi := by
  intro fu
  induction fu with
  | zero =>
    intro l1 l2 l3 z h
    rw [b_X7_leftInAny_4] at h
    cases h
  | succ fu ih =>
    intro l1 l2 l3 z h
    rw [b_X7_leftInAny_4] at h
    refine ev_iload_n dX7_leftInAny_4 rfl ?_
    refine ev_aload_n dX7_leftInAny_5 rfl ?_
    refine ev_getR 1 lf_X7_10 dX7_leftInAny_6 rfl rfl rfl ?_
    refine ev_getI lf_X7_115 dX7_leftInAny_9 rfl rfl ?_
    refine ev_icmp_ge 38 dX7_leftInAny_12 (by decide) (fun c1 => ?_) (fun c1 => ?_)
    · replace h := bv_tt c1 h
      refine ev_iload_n dX7_leftInAny_38 rfl ?_
      obtain rfl := Option.some.inj h
      exact ev_iret rfl dX7_leftInAny_39 ⟨rfl, rfl, rfl⟩
    · replace h := bv_ff c1 h
      refine ev_iload_n dX7_leftInAny_15 rfl ?_
      refine ev_iload_n dX7_leftInAny_16 rfl ?_
      refine ev_ishr dX7_leftInAny_17 ?_
      refine ev_iconst (1 : Int32) dX7_leftInAny_18 (by decide) ?_
      refine ev_iand dX7_leftInAny_19 ?_
      refine ev_if_eq 32 dX7_leftInAny_20 (by decide) (fun c2 => ?_) (fun c2 => ?_)
      · replace h := bv_tt c2 h
        refine ev_iinc (l3 + 1) dX7_leftInAny_32 rfl rfl rfl rfl ?_
        refine ev_goto 4 dX7_leftInAny_35 (by decide) ?_
        exact ev_weak (by exact And.intro rfl (And.intro rfl (And.intro rfl (And.intro rfl (trivial))))) (ih _ _ _ _ h)
      · replace h := bv_ff c2 h
        refine ev_iload_n dX7_leftInAny_23 rfl ?_
        refine ev_aload_n dX7_leftInAny_24 rfl ?_
        refine ev_getR 51 lf_X7_47 dX7_leftInAny_25 rfl rfl rfl ?_
        refine ev_iload_n dX7_leftInAny_28 rfl ?_
        obtain ⟨g1, h⟩ := bv_gd h
        refine ev_iald (N := 8) dX7_leftInAny_29 rfl g1 ?_
        refine ev_ior dX7_leftInAny_30 ?_
        refine ev_istore_n dX7_leftInAny_31 rfl rfl ?_
        refine ev_iinc (l3 + 1) dX7_leftInAny_32 rfl rfl rfl rfl ?_
        refine ev_goto 4 dX7_leftInAny_35 (by decide) ?_
        exact ev_weak (by exact And.intro rfl (And.intro rfl (And.intro rfl (And.intro rfl (trivial))))) (ih _ _ _ _ h)
set_option maxRecDepth 100000 in
set_option maxHeartbeats 4000000 in
theorem we_X7_leftInAny   (l1 : Int32) (mi : bv_Mem) (z : Int32) (h : f_X7_leftInAny  l1 mi = some z) : bv_Ev MX7_leftInAny bv_X0 0 74 74 (bv_QP z mi) 0 [some (.ref 0), some (.int l1), none, none] [] 74 (bv_mr mi) mi := by
  unfold f_X7_leftInAny at h
  refine ev_iconst (0 : Int32) dX7_leftInAny_0 (by decide) ?_
  refine ev_istore_n dX7_leftInAny_1 rfl rfl ?_
  refine ev_iconst (0 : Int32) dX7_leftInAny_2 (by decide) ?_
  refine ev_istore_n dX7_leftInAny_3 rfl rfl ?_
  exact ev_weak (by exact And.intro rfl (And.intro rfl (And.intro rfl (And.intro rfl (trivial))))) (wb_X7_leftInAny_4 mi 400 _ _ _ _ h)
theorem wm_X7_leftInAny   (l1 : Int32) (mi : bv_Mem) (z : Int32) (h : f_X7_leftInAny  l1 mi = some z) : bv_Met yX7_leftInAny MX7_leftInAny bv_X0 0 74 74 [.ref 0, .int l1] (bv_mr mi) mi (bv_QP z mi) :=
  bv_Met.of (pn_X 7 (by decide)) rfl (fun q => absurd q Bool.false_ne_true) (Nat.le_of_ble_eq_true rfl) (we_X7_leftInAny   l1 mi z h)
set_option maxRecDepth 100000 in
set_option maxHeartbeats 4000000 in
theorem wb_X7_workOutLefts_2  : ∀ (fu : Nat) (l1 : Int32) (mi : bv_Mem) (z : bv_Mem), b_X7_workOutLefts_2 fu l1 mi = some z → bv_Ev MX7_workOutLefts bv_X0 3 74 74 (bv_QV z) 2 [some (.ref 0), some (.int l1)] [] 74 (bv_mr mi) mi := by
  intro fu
  induction fu with
  | zero =>
    intro l1 mi z h
    rw [b_X7_workOutLefts_2] at h
    cases h
  | succ fu ih =>
    intro l1 mi z h
    rw [b_X7_workOutLefts_2] at h
    refine ev_iload_n dX7_workOutLefts_2 rfl ?_
    refine ev_aload_n dX7_workOutLefts_3 rfl ?_
    refine ev_getR 1 lf_X7_10 dX7_workOutLefts_4 rfl rfl rfl ?_
    refine ev_getI lf_X7_115 dX7_workOutLefts_7 rfl rfl ?_
    refine ev_icmp_ge 37 dX7_workOutLefts_10 (by decide) (fun c1 => ?_) (fun c1 => ?_)
    · replace h := bv_tt c1 h
      obtain rfl := Option.some.inj h
      exact ev_vret rfl dX7_workOutLefts_37 ⟨rfl, rfl, rfl⟩
    · replace h := bv_ff c1 h
      refine ev_aload_n dX7_workOutLefts_13 rfl ?_
      refine ev_getR 51 lf_X7_47 dX7_workOutLefts_14 rfl rfl rfl ?_
      refine ev_iload_n dX7_workOutLefts_17 rfl ?_
      refine ev_aload_n dX7_workOutLefts_18 rfl ?_
      refine ev_getR 1 lf_X7_10 dX7_workOutLefts_19 rfl rfl rfl ?_
      refine ev_getR 6 lf_X7_122 dX7_workOutLefts_22 rfl rfl rfl ?_
      refine ev_iload_n dX7_workOutLefts_25 rfl ?_
      obtain ⟨g1, h⟩ := bv_gd h
      obtain ⟨q1, hq1, h⟩ := bv_bd h
      refine er_aald (N := 8) q1 dX7_workOutLefts_26 rfl g1 hq1 ?_
      obtain ⟨g2, h⟩ := bv_gd h
      obtain ⟨z1, hz1, h⟩ := bv_bd h
      refine er_VP [] (fun _ _ q => q) lk_X7_158 dX7_workOutLefts_27 rfl rfl g2 rfl rfl (wm_X0_left _ _ _ hz1) ?_
      refine er_iast (N := 8) dX7_workOutLefts_30 rfl g1 ?_
      refine ev_iinc (l1 + 1) dX7_workOutLefts_31 rfl rfl rfl rfl ?_
      refine ev_goto 2 dX7_workOutLefts_34 (by decide) ?_
      exact ev_weak (by exact And.intro rfl (And.intro rfl (trivial))) (ih _ _ _ h)
set_option maxRecDepth 100000 in
set_option maxHeartbeats 4000000 in
theorem we_X7_workOutLefts    (mi : bv_Mem) (z : bv_Mem) (h : f_X7_workOutLefts  mi = some z) : bv_Ev MX7_workOutLefts bv_X0 3 74 74 (bv_QV z) 0 [some (.ref 0), none] [] 74 (bv_mr mi) mi := by
  unfold f_X7_workOutLefts at h
  refine ev_iconst (0 : Int32) dX7_workOutLefts_0 (by decide) ?_
  refine ev_istore_n dX7_workOutLefts_1 rfl rfl ?_
  exact ev_weak (by exact And.intro rfl (And.intro rfl (trivial))) (wb_X7_workOutLefts_2  400 _ _ _ h)
theorem wm_X7_workOutLefts    (mi : bv_Mem) (z : bv_Mem) (h : f_X7_workOutLefts  mi = some z) : bv_Met yX7_workOutLefts MX7_workOutLefts bv_X0 3 74 74 [.ref 0] (bv_mr mi) mi (bv_QV z) :=
  bv_Met.of (pn_X 7 (by decide)) rfl (fun q => absurd q Bool.false_ne_true) (Nat.le_of_ble_eq_true rfl) (we_X7_workOutLefts   mi z h)
set_option maxRecDepth 100000 in
set_option maxHeartbeats 4000000 in
theorem wb_X7_cover_57 (k_24 : Int32 → Int32 → Int32 → bv_Mem → Option (Int32 × bv_Mem)) (hk_24 : ∀ (l1 : Int32) (l2 : Int32) (l3 : Int32) (mi : bv_Mem) (z : Int32 × bv_Mem), k_24 l1 l2 l3 mi = some z → bv_Ev MX7_cover bv_X0 4 74 74 (bv_QI z) 24 [some (.ref 0), some (.int l1), some (.int l2), some (.int l3), none] [] 74 (bv_mr mi) mi) (l1 : Int32) (l2 : Int32) (l3 : Int32) (s0 : Int32) (mi : bv_Mem) (z : Int32 × bv_Mem) (h : b_X7_cover_57 k_24 l1 l2 l3 s0 mi = some z) : bv_Ev MX7_cover bv_X0 4 74 74 (bv_QI z) 57 [some (.ref 0), some (.int l1), some (.int l2), some (.int l3), none] [.int s0] 74 (bv_mr mi) mi := by
  unfold b_X7_cover_57 at h
  refine ev_istore dX7_cover_57 rfl rfl ?_
  refine ev_iload dX7_cover_59 rfl ?_
  refine ev_if_eq 78 dX7_cover_61 (by decide) (fun c1 => ?_) (fun c1 => ?_)
  · replace h := bv_tt c1 h
    refine ev_iinc (l3 + 1) dX7_cover_78 rfl rfl rfl rfl ?_
    refine ev_goto 24 dX7_cover_81 (by decide) ?_
    exact ev_weak (by exact And.intro rfl (And.intro rfl (And.intro rfl (And.intro rfl (trivial))))) (hk_24 _ _ _ _ _ h)
  · replace h := bv_ff c1 h
    refine ev_iload_n dX7_cover_64 rfl ?_
    refine ev_aload_n dX7_cover_65 rfl ?_
    refine ev_iload_n dX7_cover_66 rfl ?_
    obtain ⟨z1, hz1, h⟩ := bv_bd h
    refine er_VP [.int _] (fun _ _ q => q) lk_X7_233 dX7_cover_67 rfl rfl rfl rfl rfl (wm_X7_leftInAny _ _ _ hz1) ?_
    refine ev_iconst (-1 : Int32) dX7_cover_70 (by decide) ?_
    refine ev_ixor dX7_cover_71 ?_
    refine ev_iand dX7_cover_72 ?_
    refine ev_if_ne 78 dX7_cover_73 (by decide) (fun c2 => ?_) (fun c2 => ?_)
    · replace h := bv_ff c2 h
      refine ev_iinc (l3 + 1) dX7_cover_78 rfl rfl rfl rfl ?_
      refine ev_goto 24 dX7_cover_81 (by decide) ?_
      exact ev_weak (by exact And.intro rfl (And.intro rfl (And.intro rfl (And.intro rfl (trivial))))) (hk_24 _ _ _ _ _ h)
    · replace h := bv_tt c2 h
      refine ev_iload_n dX7_cover_76 rfl ?_
      refine ev_istore_n dX7_cover_77 rfl rfl ?_
      refine ev_iinc (l3 + 1) dX7_cover_78 rfl rfl rfl rfl ?_
      refine ev_goto 24 dX7_cover_81 (by decide) ?_
      exact ev_weak (by exact And.intro rfl (And.intro rfl (And.intro rfl (And.intro rfl (trivial))))) (hk_24 _ _ _ _ _ h)
set_option maxRecDepth 100000 in
set_option maxHeartbeats 4000000 in
theorem wb_X7_cover_52 (k_24 : Int32 → Int32 → Int32 → bv_Mem → Option (Int32 × bv_Mem)) (hk_24 : ∀ (l1 : Int32) (l2 : Int32) (l3 : Int32) (mi : bv_Mem) (z : Int32 × bv_Mem), k_24 l1 l2 l3 mi = some z → bv_Ev MX7_cover bv_X0 4 74 74 (bv_QI z) 24 [some (.ref 0), some (.int l1), some (.int l2), some (.int l3), none] [] 74 (bv_mr mi) mi) (l1 : Int32) (l2 : Int32) (l3 : Int32) (mi : bv_Mem) (z : Int32 × bv_Mem) (h : b_X7_cover_52 k_24 l1 l2 l3 mi = some z) : bv_Ev MX7_cover bv_X0 4 74 74 (bv_QI z) 52 [some (.ref 0), some (.int l1), some (.int l2), some (.int l3), none] [] 74 (bv_mr mi) mi := by
  unfold b_X7_cover_52 at h
  refine ev_iconst (1 : Int32) dX7_cover_52 (by decide) ?_
  refine ev_goto 57 dX7_cover_53 (by decide) ?_
  exact ev_weak (by exact And.intro rfl (And.intro rfl (And.intro rfl (And.intro rfl (trivial))))) (wb_X7_cover_57 k_24 hk_24 _ _ _ _ _ _ h)
set_option maxRecDepth 100000 in
set_option maxHeartbeats 4000000 in
theorem wb_X7_cover_24  : ∀ (fu : Nat) (l1 : Int32) (l2 : Int32) (l3 : Int32) (mi : bv_Mem) (z : Int32 × bv_Mem), b_X7_cover_24 fu l1 l2 l3 mi = some z → bv_Ev MX7_cover bv_X0 4 74 74 (bv_QI z) 24 [some (.ref 0), some (.int l1), some (.int l2), some (.int l3), none] [] 74 (bv_mr mi) mi := by
  intro fu
  induction fu with
  | zero =>
    intro l1 l2 l3 mi z h
    rw [b_X7_cover_24] at h
    cases h
  | succ fu ih =>
    intro l1 l2 l3 mi z h
    rw [b_X7_cover_24] at h
    refine ev_iload_n dX7_cover_24 rfl ?_
    refine ev_iconst (1 : Int32) dX7_cover_25 (by decide) ?_
    refine ev_aload_n dX7_cover_26 rfl ?_
    refine ev_getR 1 lf_X7_10 dX7_cover_27 rfl rfl rfl ?_
    refine ev_getI lf_X7_115 dX7_cover_30 rfl rfl ?_
    refine ev_ishl dX7_cover_33 ?_
    refine ev_icmp_ge 84 dX7_cover_34 (by decide) (fun c1 => ?_) (fun c1 => ?_)
    · replace h := bv_tt c1 h
      refine ev_iload_n dX7_cover_84 rfl ?_
      refine ev_if_ge 96 dX7_cover_85 (by decide) (fun c2 => ?_) (fun c2 => ?_)
      · replace h := bv_tt c2 h
        refine ev_iload_n dX7_cover_96 rfl ?_
        obtain rfl := Option.some.inj h
        exact ev_iret rfl dX7_cover_97 ⟨rfl, rfl, rfl⟩
      · replace h := bv_ff c2 h
        refine ev_aload_n dX7_cover_88 rfl ?_
        refine ev_iconst (2 : Int32) dX7_cover_89 (by decide) ?_
        obtain ⟨z1, hz1, h⟩ := bv_bd h
        refine er_VI [.int _] (fun _ _ q => q) lk_X7_62 dX7_cover_90 rfl rfl rfl rfl rfl (wm_X7_error _ _ _ hz1) ?_
        refine ev_goto 97 dX7_cover_93 (by decide) ?_
        obtain rfl := Option.some.inj h
        exact ev_iret rfl dX7_cover_97 ⟨rfl, rfl, rfl⟩
    · replace h := bv_ff c1 h
      refine ev_iload_n dX7_cover_37 rfl ?_
      refine ev_if_lt 52 dX7_cover_38 (by decide) (fun c3 => ?_) (fun c3 => ?_)
      · replace h := bv_tt c3 h
        exact ev_weak (by exact And.intro rfl (And.intro rfl (And.intro rfl (And.intro rfl (trivial))))) (wb_X7_cover_52 (b_X7_cover_24 fu) ih _ _ _ _ _ h)
      · replace h := bv_ff c3 h
        refine ev_iload_n dX7_cover_41 rfl ?_
        obtain ⟨z2, hz2, h⟩ := bv_bd h
        refine er_SP [.int _] (fun _ _ q => q) lk_X7_89 dX7_cover_42 rfl rfl rfl rfl (wm_J6_bitCount_0f7a4 _ _ _ hz2) ?_
        refine ev_iload_n dX7_cover_45 rfl ?_
        obtain ⟨z3, hz3, h⟩ := bv_bd h
        refine er_SP [.int _] (fun _ _ q => q) lk_X7_89 dX7_cover_46 rfl rfl rfl rfl (wm_J6_bitCount_0f7a4 _ _ _ hz3) ?_
        refine ev_icmp_ge 56 dX7_cover_49 (by decide) (fun c4 => ?_) (fun c4 => ?_)
        · replace h := bv_tt c4 h
          refine ev_iconst (0 : Int32) dX7_cover_56 (by decide) ?_
          exact ev_weak (by exact And.intro rfl (And.intro rfl (And.intro rfl (And.intro rfl (trivial))))) (wb_X7_cover_57 (b_X7_cover_24 fu) ih _ _ _ _ _ _ h)
        · replace h := bv_ff c4 h
          exact ev_weak (by exact And.intro rfl (And.intro rfl (And.intro rfl (And.intro rfl (trivial))))) (wb_X7_cover_52 (b_X7_cover_24 fu) ih _ _ _ _ _ h)
set_option maxRecDepth 100000 in
set_option maxHeartbeats 4000000 in
theorem we_X7_cover   (l1 : Int32) (mi : bv_Mem) (z : Int32 × bv_Mem) (h : f_X7_cover  l1 mi = some z) : bv_Ev MX7_cover bv_X0 4 74 74 (bv_QI z) 0 [some (.ref 0), some (.int l1), none, none, none] [] 74 (bv_mr mi) mi := by
  unfold f_X7_cover at h
  refine ev_iload_n dX7_cover_0 rfl ?_
  refine ev_iconst (0 : Int32) dX7_cover_1 (by decide) ?_
  refine ev_ldc (1048575 : Int32) dX7_cover_2 lc_X7_229 ?_
  obtain ⟨z1, hz1, h⟩ := bv_bd h
  refine er_SP [.int _, .int _, .int _] (fun _ _ q => q) lk_X7_58 dX7_cover_4 rfl rfl rfl rfl (wm_X7_isWithin _ _ _ _ _ hz1) ?_
  refine ev_if_ne 16 dX7_cover_7 (by decide) (fun c1 => ?_) (fun c1 => ?_)
  · replace h := bv_ff c1 h
    refine ev_aload_n dX7_cover_16 rfl ?_
    obtain ⟨z2, hz2, h⟩ := bv_bd h
    refine er_VV [] (fun _ _ q => q) lk_X7_230 dX7_cover_17 rfl rfl rfl rfl rfl (wm_X7_workOutLefts  _ _ hz2) ?_
    refine ev_iconst (-1 : Int32) dX7_cover_20 (by decide) ?_
    refine ev_istore_n dX7_cover_21 rfl rfl ?_
    refine ev_iconst (0 : Int32) dX7_cover_22 (by decide) ?_
    refine ev_istore_n dX7_cover_23 rfl rfl ?_
    exact ev_weak (by exact And.intro rfl (And.intro rfl (And.intro rfl (And.intro rfl (trivial))))) (wb_X7_cover_24  400 _ _ _ _ _ h)
  · replace h := bv_tt c1 h
    refine ev_aload_n dX7_cover_10 rfl ?_
    refine ev_iconst (1 : Int32) dX7_cover_11 (by decide) ?_
    obtain ⟨z3, hz3, h⟩ := bv_bd h
    refine er_VI [.int _] (fun _ _ q => q) lk_X7_62 dX7_cover_12 rfl rfl rfl rfl rfl (wm_X7_error _ _ _ hz3) ?_
    obtain rfl := Option.some.inj h
    exact ev_iret rfl dX7_cover_15 ⟨rfl, rfl, rfl⟩
theorem wm_X7_cover   (l1 : Int32) (mi : bv_Mem) (z : Int32 × bv_Mem) (h : f_X7_cover  l1 mi = some z) : bv_Met yX7_cover MX7_cover bv_X0 4 74 74 [.ref 0, .int l1] (bv_mr mi) mi (bv_QI z) :=
  bv_Met.of (pn_X 7 (by decide)) rfl (fun q => absurd q Bool.false_ne_true) (Nat.le_of_ble_eq_true rfl) (we_X7_cover   l1 mi z h)
set_option maxRecDepth 100000 in
set_option maxHeartbeats 4000000 in
theorem wb_X7_priceTogether_4 (mi : bv_Mem) : ∀ (fu : Nat) (l1 : Int32) (l2 : Int32) (l3 : Int32) (z : Int32), b_X7_priceTogether_4 mi fu l1 l2 l3 = some z → bv_Ev MX7_priceTogether bv_X0 0 74 74 (bv_QP z mi) 4 [some (.ref 0), some (.int l1), some (.int l2), some (.int l3)] [] 74 (bv_mr mi) mi := by
  intro fu
  induction fu with
  | zero =>
    intro l1 l2 l3 z h
    rw [b_X7_priceTogether_4] at h
    cases h
  | succ fu ih =>
    intro l1 l2 l3 z h
    rw [b_X7_priceTogether_4] at h
    refine ev_iload_n dX7_priceTogether_4 rfl ?_
    refine ev_aload_n dX7_priceTogether_5 rfl ?_
    refine ev_getR 1 lf_X7_10 dX7_priceTogether_6 rfl rfl rfl ?_
    refine ev_getI lf_X7_115 dX7_priceTogether_9 rfl rfl ?_
    refine ev_icmp_ge 38 dX7_priceTogether_12 (by decide) (fun c1 => ?_) (fun c1 => ?_)
    · replace h := bv_tt c1 h
      refine ev_iload_n dX7_priceTogether_38 rfl ?_
      obtain rfl := Option.some.inj h
      exact ev_iret rfl dX7_priceTogether_39 ⟨rfl, rfl, rfl⟩
    · replace h := bv_ff c1 h
      refine ev_iload_n dX7_priceTogether_15 rfl ?_
      refine ev_iload_n dX7_priceTogether_16 rfl ?_
      refine ev_ishr dX7_priceTogether_17 ?_
      refine ev_iconst (1 : Int32) dX7_priceTogether_18 (by decide) ?_
      refine ev_iand dX7_priceTogether_19 ?_
      refine ev_if_eq 32 dX7_priceTogether_20 (by decide) (fun c2 => ?_) (fun c2 => ?_)
      · replace h := bv_tt c2 h
        refine ev_iinc (l3 + 1) dX7_priceTogether_32 rfl rfl rfl rfl ?_
        refine ev_goto 4 dX7_priceTogether_35 (by decide) ?_
        exact ev_weak (by exact And.intro rfl (And.intro rfl (And.intro rfl (And.intro rfl (trivial))))) (ih _ _ _ _ h)
      · replace h := bv_ff c2 h
        refine ev_iload_n dX7_priceTogether_23 rfl ?_
        refine ev_aload_n dX7_priceTogether_24 rfl ?_
        refine ev_getR 52 lf_X7_50 dX7_priceTogether_25 rfl rfl rfl ?_
        refine ev_iload_n dX7_priceTogether_28 rfl ?_
        obtain ⟨g1, h⟩ := bv_gd h
        refine ev_iald (N := 8) dX7_priceTogether_29 rfl g1 ?_
        refine ev_iadd dX7_priceTogether_30 ?_
        refine ev_istore_n dX7_priceTogether_31 rfl rfl ?_
        refine ev_iinc (l3 + 1) dX7_priceTogether_32 rfl rfl rfl rfl ?_
        refine ev_goto 4 dX7_priceTogether_35 (by decide) ?_
        exact ev_weak (by exact And.intro rfl (And.intro rfl (And.intro rfl (And.intro rfl (trivial))))) (ih _ _ _ _ h)
set_option maxRecDepth 100000 in
set_option maxHeartbeats 4000000 in
theorem we_X7_priceTogether   (l1 : Int32) (mi : bv_Mem) (z : Int32) (h : f_X7_priceTogether  l1 mi = some z) : bv_Ev MX7_priceTogether bv_X0 0 74 74 (bv_QP z mi) 0 [some (.ref 0), some (.int l1), none, none] [] 74 (bv_mr mi) mi := by
  unfold f_X7_priceTogether at h
  refine ev_iconst (0 : Int32) dX7_priceTogether_0 (by decide) ?_
  refine ev_istore_n dX7_priceTogether_1 rfl rfl ?_
  refine ev_iconst (0 : Int32) dX7_priceTogether_2 (by decide) ?_
  refine ev_istore_n dX7_priceTogether_3 rfl rfl ?_
  exact ev_weak (by exact And.intro rfl (And.intro rfl (And.intro rfl (And.intro rfl (trivial))))) (wb_X7_priceTogether_4 mi 400 _ _ _ _ h)
theorem wm_X7_priceTogether   (l1 : Int32) (mi : bv_Mem) (z : Int32) (h : f_X7_priceTogether  l1 mi = some z) : bv_Met yX7_priceTogether MX7_priceTogether bv_X0 0 74 74 [.ref 0, .int l1] (bv_mr mi) mi (bv_QP z mi) :=
  bv_Met.of (pn_X 7 (by decide)) rfl (fun q => absurd q Bool.false_ne_true) (Nat.le_of_ble_eq_true rfl) (we_X7_priceTogether   l1 mi z h)
set_option maxRecDepth 100000 in
set_option maxHeartbeats 4000000 in
theorem wb_X7_isApart_4 (mi : bv_Mem) : ∀ (fu : Nat) (l1 : Int32) (l2 : Int32) (l3 : Int32) (z : Int32), b_X7_isApart_4 mi fu l1 l2 l3 = some z → bv_Ev MX7_isApart bv_X0 0 74 74 (bv_QP z mi) 4 [some (.ref 0), some (.int l1), some (.int l2), some (.int l3)] [] 74 (bv_mr mi) mi := by
  intro fu
  induction fu with
  | zero =>
    intro l1 l2 l3 z h
    rw [b_X7_isApart_4] at h
    cases h
  | succ fu ih =>
    intro l1 l2 l3 z h
    rw [b_X7_isApart_4] at h
    refine ev_iload_n dX7_isApart_4 rfl ?_
    refine ev_aload_n dX7_isApart_5 rfl ?_
    refine ev_getR 1 lf_X7_10 dX7_isApart_6 rfl rfl rfl ?_
    refine ev_getI lf_X7_115 dX7_isApart_9 rfl rfl ?_
    refine ev_icmp_ge 51 dX7_isApart_12 (by decide) (fun c1 => ?_) (fun c1 => ?_)
    · replace h := bv_tt c1 h
      refine ev_iconst (1 : Int32) dX7_isApart_51 (by decide) ?_
      obtain rfl := Option.some.inj h
      exact ev_zret rfl (Or.inr rfl) dX7_isApart_52 ⟨rfl, rfl, rfl⟩
    · replace h := bv_ff c1 h
      refine ev_iload_n dX7_isApart_15 rfl ?_
      refine ev_iload_n dX7_isApart_16 rfl ?_
      refine ev_ishr dX7_isApart_17 ?_
      refine ev_iconst (1 : Int32) dX7_isApart_18 (by decide) ?_
      refine ev_iand dX7_isApart_19 ?_
      refine ev_if_eq 45 dX7_isApart_20 (by decide) (fun c2 => ?_) (fun c2 => ?_)
      · replace h := bv_tt c2 h
        refine ev_iinc (l3 + 1) dX7_isApart_45 rfl rfl rfl rfl ?_
        refine ev_goto 4 dX7_isApart_48 (by decide) ?_
        exact ev_weak (by exact And.intro rfl (And.intro rfl (And.intro rfl (And.intro rfl (trivial))))) (ih _ _ _ _ h)
      · replace h := bv_ff c2 h
        refine ev_iload_n dX7_isApart_23 rfl ?_
        refine ev_aload_n dX7_isApart_24 rfl ?_
        refine ev_getR 51 lf_X7_47 dX7_isApart_25 rfl rfl rfl ?_
        refine ev_iload_n dX7_isApart_28 rfl ?_
        obtain ⟨g1, h⟩ := bv_gd h
        refine ev_iald (N := 8) dX7_isApart_29 rfl g1 ?_
        refine ev_iand dX7_isApart_30 ?_
        refine ev_if_eq 36 dX7_isApart_31 (by decide) (fun c3 => ?_) (fun c3 => ?_)
        · replace h := bv_tt c3 h
          refine ev_iload_n dX7_isApart_36 rfl ?_
          refine ev_aload_n dX7_isApart_37 rfl ?_
          refine ev_getR 51 lf_X7_47 dX7_isApart_38 rfl rfl rfl ?_
          refine ev_iload_n dX7_isApart_41 rfl ?_
          refine ev_iald (N := 8) dX7_isApart_42 rfl g1 ?_
          refine ev_ior dX7_isApart_43 ?_
          refine ev_istore_n dX7_isApart_44 rfl rfl ?_
          refine ev_iinc (l3 + 1) dX7_isApart_45 rfl rfl rfl rfl ?_
          refine ev_goto 4 dX7_isApart_48 (by decide) ?_
          exact ev_weak (by exact And.intro rfl (And.intro rfl (And.intro rfl (And.intro rfl (trivial))))) (ih _ _ _ _ h)
        · replace h := bv_ff c3 h
          refine ev_iconst (0 : Int32) dX7_isApart_34 (by decide) ?_
          obtain rfl := Option.some.inj h
          exact ev_zret rfl (Or.inl rfl) dX7_isApart_35 ⟨rfl, rfl, rfl⟩
set_option maxRecDepth 100000 in
set_option maxHeartbeats 4000000 in
theorem we_X7_isApart   (l1 : Int32) (mi : bv_Mem) (z : Int32) (h : f_X7_isApart  l1 mi = some z) : bv_Ev MX7_isApart bv_X0 0 74 74 (bv_QP z mi) 0 [some (.ref 0), some (.int l1), none, none] [] 74 (bv_mr mi) mi := by
  unfold f_X7_isApart at h
  refine ev_iconst (0 : Int32) dX7_isApart_0 (by decide) ?_
  refine ev_istore_n dX7_isApart_1 rfl rfl ?_
  refine ev_iconst (0 : Int32) dX7_isApart_2 (by decide) ?_
  refine ev_istore_n dX7_isApart_3 rfl rfl ?_
  exact ev_weak (by exact And.intro rfl (And.intro rfl (And.intro rfl (And.intro rfl (trivial))))) (wb_X7_isApart_4 mi 400 _ _ _ _ h)
theorem wm_X7_isApart   (l1 : Int32) (mi : bv_Mem) (z : Int32) (h : f_X7_isApart  l1 mi = some z) : bv_Met yX7_isApart MX7_isApart bv_X0 0 74 74 [.ref 0, .int l1] (bv_mr mi) mi (bv_QP z mi) :=
  bv_Met.of (pn_X 7 (by decide)) rfl (fun q => absurd q Bool.false_ne_true) (Nat.le_of_ble_eq_true rfl) (we_X7_isApart   l1 mi z h)
set_option maxRecDepth 100000 in
set_option maxHeartbeats 4000000 in
theorem wb_X7_workOutPrices_2  : ∀ (fu : Nat) (l1 : Int32) (mi : bv_Mem) (z : bv_Mem), b_X7_workOutPrices_2 fu l1 mi = some z → bv_Ev MX7_workOutPrices bv_X0 66 74 74 (bv_QV z) 2 [some (.ref 0), some (.int l1)] [] 74 (bv_mr mi) mi := by
  intro fu
  induction fu with
  | zero =>
    intro l1 mi z h
    rw [b_X7_workOutPrices_2] at h
    cases h
  | succ fu ih =>
    intro l1 mi z h
    rw [b_X7_workOutPrices_2] at h
    refine ev_iload_n dX7_workOutPrices_2 rfl ?_
    refine ev_aload_n dX7_workOutPrices_3 rfl ?_
    refine ev_getR 1 lf_X7_10 dX7_workOutPrices_4 rfl rfl rfl ?_
    refine ev_getI lf_X7_115 dX7_workOutPrices_7 rfl rfl ?_
    refine ev_icmp_ge 38 dX7_workOutPrices_10 (by decide) (fun c1 => ?_) (fun c1 => ?_)
    · replace h := bv_tt c1 h
      obtain rfl := Option.some.inj h
      exact ev_vret rfl dX7_workOutPrices_38 ⟨rfl, rfl, rfl⟩
    · replace h := bv_ff c1 h
      refine ev_aload_n dX7_workOutPrices_13 rfl ?_
      refine ev_getR 52 lf_X7_50 dX7_workOutPrices_14 rfl rfl rfl ?_
      refine ev_iload_n dX7_workOutPrices_17 rfl ?_
      refine ev_aload_n dX7_workOutPrices_18 rfl ?_
      refine ev_aload_n dX7_workOutPrices_19 rfl ?_
      refine ev_getR 1 lf_X7_10 dX7_workOutPrices_20 rfl rfl rfl ?_
      refine ev_getR 6 lf_X7_122 dX7_workOutPrices_23 rfl rfl rfl ?_
      refine ev_iload_n dX7_workOutPrices_26 rfl ?_
      obtain ⟨g1, h⟩ := bv_gd h
      obtain ⟨q1, hq1, h⟩ := bv_bd h
      refine er_aald (N := 8) q1 dX7_workOutPrices_27 rfl g1 hq1 ?_
      obtain ⟨z1, hz1, h⟩ := bv_bd h
      refine er_VI [.ref _] (fun _ _ q => q) lk_X7_165 dX7_workOutPrices_28 rfl rfl rfl rfl rfl (wm_X7_priceOf _ _ _ hz1) ?_
      refine er_iast (N := 8) dX7_workOutPrices_31 rfl g1 ?_
      refine ev_iinc (l1 + 1) dX7_workOutPrices_32 rfl rfl rfl rfl ?_
      refine ev_goto 2 dX7_workOutPrices_35 (by decide) ?_
      exact ev_weak (by exact And.intro rfl (And.intro rfl (trivial))) (ih _ _ _ h)
set_option maxRecDepth 100000 in
set_option maxHeartbeats 4000000 in
theorem we_X7_workOutPrices    (mi : bv_Mem) (z : bv_Mem) (h : f_X7_workOutPrices  mi = some z) : bv_Ev MX7_workOutPrices bv_X0 66 74 74 (bv_QV z) 0 [some (.ref 0), none] [] 74 (bv_mr mi) mi := by
  unfold f_X7_workOutPrices at h
  refine ev_iconst (0 : Int32) dX7_workOutPrices_0 (by decide) ?_
  refine ev_istore_n dX7_workOutPrices_1 rfl rfl ?_
  exact ev_weak (by exact And.intro rfl (And.intro rfl (trivial))) (wb_X7_workOutPrices_2  400 _ _ _ h)
theorem wm_X7_workOutPrices    (mi : bv_Mem) (z : bv_Mem) (h : f_X7_workOutPrices  mi = some z) : bv_Met yX7_workOutPrices MX7_workOutPrices bv_X0 66 74 74 [.ref 0] (bv_mr mi) mi (bv_QV z) :=
  bv_Met.of (pn_X 7 (by decide)) rfl (fun q => absurd q Bool.false_ne_true) (Nat.le_of_ble_eq_true rfl) (we_X7_workOutPrices   mi z h)
