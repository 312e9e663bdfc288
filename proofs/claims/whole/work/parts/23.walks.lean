set_option maxRecDepth 100000 in
set_option maxHeartbeats 4000000 in
theorem wb_X8_leaguesOf_11 (mi : bv_Mem) : ∀ (fu : Nat) (l1 : Int32) (l2 : Int32) (l3 : Int32) (l4 : Int32) (z : Int32), b_X8_leaguesOf_11 mi fu l1 l2 l3 l4 = some z → bv_Ev MX8_leaguesOf bv_X0 3 74 74 (bv_QP z mi) 11 [some (.ref 61), some (.int l1), some (.int l2), some (.int l3), some (.int l4), none] [] 74 (bv_mr mi) mi := by
  intro fu
  induction fu with
  | zero =>
    intro l1 l2 l3 l4 z h
    rw [b_X8_leaguesOf_11] at h
    cases h
  | succ fu ih =>
    intro l1 l2 l3 l4 z h
    rw [b_X8_leaguesOf_11] at h
    refine ev_iload dX8_leaguesOf_11 rfl ?_
    refine ev_bipush (20 : Int32) dX8_leaguesOf_13 (by decide) ?_
    refine ev_icmp_ge 60 dX8_leaguesOf_15 (by decide) (fun c1 => ?_) (fun c1 => ?_)
    · replace h := bv_tt c1 h
      refine ev_iload_n dX8_leaguesOf_60 rfl ?_
      obtain rfl := Option.some.inj h
      exact ev_iret rfl dX8_leaguesOf_61 ⟨rfl, rfl, rfl⟩
    · replace h := bv_ff c1 h
      refine ev_aload_n dX8_leaguesOf_18 rfl ?_
      refine ev_iload_n dX8_leaguesOf_19 rfl ?_
      refine ev_iconst (2 : Int32) dX8_leaguesOf_20 (by decide) ?_
      obtain ⟨z1, hz1, h⟩ := bv_bd h
      refine er_VP [.int _, .int _] (fun _ _ q => q) lk_X8_89 dX8_leaguesOf_21 rfl rfl rfl rfl rfl (wm_X8_of _ _ _ _ hz1) ?_
      refine ev_iload dX8_leaguesOf_24 rfl ?_
      obtain ⟨z2, hz2, h⟩ := bv_bd h
      refine er_SP [.int _, .int _] (fun _ _ q => q) lk_X8_55 dX8_leaguesOf_26 rfl rfl rfl rfl (wm_X8_steps _ _ _ _ hz2) ?_
      refine ev_istore dX8_leaguesOf_29 rfl rfl ?_
      refine ev_iload_n dX8_leaguesOf_31 rfl ?_
      refine ev_iload dX8_leaguesOf_32 rfl ?_
      refine ev_ishr dX8_leaguesOf_34 ?_
      refine ev_iconst (1 : Int32) dX8_leaguesOf_35 (by decide) ?_
      refine ev_iand dX8_leaguesOf_36 ?_
      refine ev_iconst (1 : Int32) dX8_leaguesOf_37 (by decide) ?_
      refine ev_icmp_ne 52 dX8_leaguesOf_38 (by decide) (fun c2 => ?_) (fun c2 => ?_)
      · replace h := bv_ff c2 h
        refine ev_iload_n dX8_leaguesOf_52 rfl ?_
        refine ev_istore_n dX8_leaguesOf_53 rfl rfl ?_
        refine ev_iinc (l4 + 1) dX8_leaguesOf_54 rfl rfl rfl rfl ?_
        refine ev_goto 11 dX8_leaguesOf_57 (by decide) ?_
        exact ev_weak (by exact And.intro rfl (And.intro rfl (And.intro rfl (And.intro rfl (And.intro rfl (trivial)))))) (ih _ _ _ _ _ h)
      · replace h := bv_tt c2 h
        refine ev_iload dX8_leaguesOf_41 rfl ?_
        refine ev_iload_n dX8_leaguesOf_43 rfl ?_
        refine ev_icmp_le 52 dX8_leaguesOf_44 (by decide) (fun c3 => ?_) (fun c3 => ?_)
        · replace h := bv_tt c3 h
          refine ev_iload_n dX8_leaguesOf_52 rfl ?_
          refine ev_istore_n dX8_leaguesOf_53 rfl rfl ?_
          refine ev_iinc (l4 + 1) dX8_leaguesOf_54 rfl rfl rfl rfl ?_
          refine ev_goto 11 dX8_leaguesOf_57 (by decide) ?_
          exact ev_weak (by exact And.intro rfl (And.intro rfl (And.intro rfl (And.intro rfl (And.intro rfl (trivial)))))) (ih _ _ _ _ _ h)
        · replace h := bv_ff c3 h
          refine ev_iload dX8_leaguesOf_47 rfl ?_
          refine ev_goto 53 dX8_leaguesOf_49 (by decide) ?_
          refine ev_istore_n dX8_leaguesOf_53 rfl rfl ?_
          refine ev_iinc (l4 + 1) dX8_leaguesOf_54 rfl rfl rfl rfl ?_
          refine ev_goto 11 dX8_leaguesOf_57 (by decide) ?_
          exact ev_weak (by exact And.intro rfl (And.intro rfl (And.intro rfl (And.intro rfl (And.intro rfl (trivial)))))) (ih _ _ _ _ _ h)
set_option maxRecDepth 100000 in
set_option maxHeartbeats 4000000 in
theorem we_X8_leaguesOf   (l1 : Int32) (mi : bv_Mem) (z : Int32) (h : f_X8_leaguesOf  l1 mi = some z) : bv_Ev MX8_leaguesOf bv_X0 3 74 74 (bv_QP z mi) 0 [some (.ref 61), some (.int l1), none, none, none, none] [] 74 (bv_mr mi) mi := by
  unfold f_X8_leaguesOf at h
  refine ev_iconst (0 : Int32) dX8_leaguesOf_0 (by decide) ?_
  refine ev_istore_n dX8_leaguesOf_1 rfl rfl ?_
  refine ev_aload_n dX8_leaguesOf_2 rfl ?_
  refine ev_iload_n dX8_leaguesOf_3 rfl ?_
  obtain ⟨z1, hz1, h⟩ := bv_bd h
  refine er_VP [.int _] (fun _ _ q => q) lk_X8_96 dX8_leaguesOf_4 rfl rfl rfl rfl rfl (wm_X8_leftIn _ _ _ hz1) ?_
  refine ev_istore_n dX8_leaguesOf_7 rfl rfl ?_
  refine ev_iconst (0 : Int32) dX8_leaguesOf_8 (by decide) ?_
  refine ev_istore dX8_leaguesOf_9 rfl rfl ?_
  exact ev_weak (by exact And.intro rfl (And.intro rfl (And.intro rfl (And.intro rfl (And.intro rfl (trivial)))))) (wb_X8_leaguesOf_11 mi 400 _ _ _ _ _ h)
theorem wm_X8_leaguesOf   (l1 : Int32) (mi : bv_Mem) (z : Int32) (h : f_X8_leaguesOf  l1 mi = some z) : bv_Met yX8_leaguesOf MX8_leaguesOf bv_X0 3 74 74 [.ref 61, .int l1] (bv_mr mi) mi (bv_QP z mi) :=
  bv_Met.of (pn_X 8 (by decide)) rfl (fun q => absurd q Bool.false_ne_true) (Nat.le_of_ble_eq_true rfl) (we_X8_leaguesOf   l1 mi z h)
set_option maxRecDepth 100000 in
set_option maxHeartbeats 4000000 in
theorem we_X8_costsOf   (l1 : Int32) (mi : bv_Mem) (z : Int32 × bv_Mem) (h : f_X8_costsOf  l1 mi = some z) : bv_Ev MX8_costsOf bv_X0 4 74 74 (bv_QI z) 0 [some (.ref 61), some (.int l1), none] [] 74 (bv_mr mi) mi := by
  unfold f_X8_costsOf at h
  refine ev_aload_n dX8_costsOf_0 rfl ?_
  refine ev_iconst (1 : Int32) dX8_costsOf_1 (by decide) ?_
  refine ev_aload_n dX8_costsOf_2 rfl ?_
  refine ev_iload_n dX8_costsOf_3 rfl ?_
  obtain ⟨z1, hz1, h⟩ := bv_bd h
  refine er_VP [.int _] (fun _ _ q => q) lk_X8_96 dX8_costsOf_4 rfl rfl rfl rfl rfl (wm_X8_leftIn _ _ _ hz1) ?_
  obtain ⟨z2, hz2, h⟩ := bv_bd h
  refine er_SP [.int _] (fun _ _ q => q) lk_X8_65 dX8_costsOf_7 rfl rfl rfl rfl (wm_X8_bits _ _ _ hz2) ?_
  refine ev_aload_n dX8_costsOf_10 rfl ?_
  refine ev_iload_n dX8_costsOf_11 rfl ?_
  obtain ⟨z3, hz3, h⟩ := bv_bd h
  refine er_VP [.int _] (fun _ _ q => q) lk_X8_99 dX8_costsOf_12 rfl rfl rfl rfl rfl (wm_X8_leaguesOf _ _ _ hz3) ?_
  refine ev_aload_n dX8_costsOf_15 rfl ?_
  refine ev_iload_n dX8_costsOf_16 rfl ?_
  refine ev_iconst (4 : Int32) dX8_costsOf_17 (by decide) ?_
  obtain ⟨z4, hz4, h⟩ := bv_bd h
  refine er_VP [.int _, .int _] (fun _ _ q => q) lk_X8_89 dX8_costsOf_18 rfl rfl rfl rfl rfl (wm_X8_of _ _ _ _ hz4) ?_
  obtain ⟨z5, hz5, h⟩ := bv_bd h
  refine er_VI [.int _, .int _, .int _, .int _] (fun _ _ q => q) lk_X8_102 dX8_costsOf_21 rfl rfl rfl rfl rfl (wm_X8_gives _ _ _ _ _ _ hz5) ?_
  refine ev_istore_n dX8_costsOf_24 rfl rfl ?_
  refine ev_aload_n dX8_costsOf_25 rfl ?_
  refine ev_iload_n dX8_costsOf_26 rfl ?_
  refine ev_iconst (0 : Int32) dX8_costsOf_27 (by decide) ?_
  obtain ⟨z6, hz6, h⟩ := bv_bd h
  refine er_VP [.int _, .int _] (fun _ _ q => q) lk_X8_89 dX8_costsOf_28 rfl rfl rfl rfl rfl (wm_X8_of _ _ _ _ hz6) ?_
  by_cases c1 : z6 = (1 : Int32)
  · replace h := bv_tt c1 h
    refine ev_tableIn (37) 68 dX8_costsOf_31 (by rw [c1]; decide) (by rw [c1]; decide) (by rw [c1]; decide) (by decide) ?_
    refine ev_iconst (2 : Int32) dX8_costsOf_68 (by decide) ?_
    refine ev_iload_n dX8_costsOf_69 rfl ?_
    refine ev_imul dX8_costsOf_70 ?_
    obtain rfl := Option.some.inj h
    exact ev_iret rfl dX8_costsOf_71 ⟨rfl, rfl, rfl⟩
  replace h := bv_ff c1 h
  by_cases c2 : z6 = (2 : Int32)
  · replace h := bv_tt c2 h
    refine ev_tableIn (41) 72 dX8_costsOf_31 (by rw [c2]; decide) (by rw [c2]; decide) (by rw [c2]; decide) (by decide) ?_
    refine ev_iload_n dX8_costsOf_72 rfl ?_
    refine ev_iconst (2 : Int32) dX8_costsOf_73 (by decide) ?_
    refine ev_idiv dX8_costsOf_74 (by decide) ?_
    obtain rfl := Option.some.inj h
    exact ev_iret rfl dX8_costsOf_75 ⟨rfl, rfl, rfl⟩
  replace h := bv_ff c2 h
  by_cases c3 : z6 = (3 : Int32)
  · replace h := bv_tt c3 h
    refine ev_tableIn (45) 76 dX8_costsOf_31 (by rw [c3]; decide) (by rw [c3]; decide) (by rw [c3]; decide) (by decide) ?_
    refine ev_iload_n dX8_costsOf_76 rfl ?_
    refine ev_aload_n dX8_costsOf_77 rfl ?_
    refine ev_iload_n dX8_costsOf_78 rfl ?_
    refine ev_iconst (4 : Int32) dX8_costsOf_79 (by decide) ?_
    obtain ⟨z7, hz7, h⟩ := bv_bd h
    refine er_VP [.int _, .int _] (fun _ _ q => q) lk_X8_89 dX8_costsOf_80 rfl rfl rfl rfl rfl (wm_X8_of _ _ _ _ hz7) ?_
    refine ev_iadd dX8_costsOf_83 ?_
    obtain rfl := Option.some.inj h
    exact ev_iret rfl dX8_costsOf_84 ⟨rfl, rfl, rfl⟩
  replace h := bv_ff c3 h
  by_cases c4 : z6 = (4 : Int32)
  · replace h := bv_tt c4 h
    refine ev_tableIn (54) 85 dX8_costsOf_31 (by rw [c4]; decide) (by rw [c4]; decide) (by rw [c4]; decide) (by decide) ?_
    refine ev_iconst (2 : Int32) dX8_costsOf_85 (by decide) ?_
    refine ev_iload_n dX8_costsOf_86 rfl ?_
    refine ev_imul dX8_costsOf_87 ?_
    refine ev_iconst (5 : Int32) dX8_costsOf_88 (by decide) ?_
    refine ev_aload_n dX8_costsOf_89 rfl ?_
    refine ev_iload_n dX8_costsOf_90 rfl ?_
    refine ev_iconst (1 : Int32) dX8_costsOf_91 (by decide) ?_
    obtain ⟨z8, hz8, h⟩ := bv_bd h
    refine er_VP [.int _, .int _] (fun _ _ q => q) lk_X8_89 dX8_costsOf_92 rfl rfl rfl rfl rfl (wm_X8_of _ _ _ _ hz8) ?_
    refine ev_imul dX8_costsOf_95 ?_
    refine ev_iadd dX8_costsOf_96 ?_
    obtain rfl := Option.some.inj h
    exact ev_iret rfl dX8_costsOf_97 ⟨rfl, rfl, rfl⟩
  replace h := bv_ff c4 h
  by_cases c5 : z6 = (5 : Int32)
  · replace h := bv_tt c5 h
    refine ev_tableIn (67) 98 dX8_costsOf_31 (by rw [c5]; decide) (by rw [c5]; decide) (by rw [c5]; decide) (by decide) ?_
    refine ev_iconst (1 : Int32) dX8_costsOf_98 (by decide) ?_
    obtain rfl := Option.some.inj h
    exact ev_iret rfl dX8_costsOf_99 ⟨rfl, rfl, rfl⟩
  replace h := bv_ff c5 h
  by_cases c6 : z6 = (6 : Int32)
  · replace h := bv_tt c6 h
    refine ev_tableIn (69) 100 dX8_costsOf_31 (by rw [c6]; decide) (by rw [c6]; decide) (by rw [c6]; decide) (by decide) ?_
    refine ev_iload_n dX8_costsOf_100 rfl ?_
    refine ev_aload_n dX8_costsOf_101 rfl ?_
    refine ev_iload_n dX8_costsOf_102 rfl ?_
    refine ev_iconst (4 : Int32) dX8_costsOf_103 (by decide) ?_
    obtain ⟨z9, hz9, h⟩ := bv_bd h
    refine er_VP [.int _, .int _] (fun _ _ q => q) lk_X8_89 dX8_costsOf_104 rfl rfl rfl rfl rfl (wm_X8_of _ _ _ _ hz9) ?_
    refine ev_iadd dX8_costsOf_107 ?_
    refine ev_aload_n dX8_costsOf_108 rfl ?_
    refine ev_iload_n dX8_costsOf_109 rfl ?_
    refine ev_iconst (4 : Int32) dX8_costsOf_110 (by decide) ?_
    obtain ⟨z10, hz10, h⟩ := bv_bd h
    refine er_VP [.int _, .int _] (fun _ _ q => q) lk_X8_89 dX8_costsOf_111 rfl rfl rfl rfl rfl (wm_X8_of _ _ _ _ hz10) ?_
    refine ev_aload_n dX8_costsOf_114 rfl ?_
    refine ev_iload_n dX8_costsOf_115 rfl ?_
    refine ev_iconst (1 : Int32) dX8_costsOf_116 (by decide) ?_
    obtain ⟨z11, hz11, h⟩ := bv_bd h
    refine er_VP [.int _, .int _] (fun _ _ q => q) lk_X8_89 dX8_costsOf_117 rfl rfl rfl rfl rfl (wm_X8_of _ _ _ _ hz11) ?_
    refine ev_iconst (1 : Int32) dX8_costsOf_120 (by decide) ?_
    refine ev_iadd dX8_costsOf_121 ?_
    obtain ⟨g1, h⟩ := bv_gd h
    refine ev_idiv dX8_costsOf_122 g1 ?_
    refine ev_iadd dX8_costsOf_123 ?_
    obtain rfl := Option.some.inj h
    exact ev_iret rfl dX8_costsOf_124 ⟨rfl, rfl, rfl⟩
  replace h := bv_ff c6 h
  refine ev_tableOut 125 dX8_costsOf_31 (bv_sw 6 (by decide) (fun j hj => by match j, hj with | 0, _ => exact c1 | 1, _ => exact c2 | 2, _ => exact c3 | 3, _ => exact c4 | 4, _ => exact c5 | 5, _ => exact c6 | j + 6, hj => exact absurd hj (by omega))) (by decide) ?_
  refine ev_iload_n dX8_costsOf_125 rfl ?_
  obtain rfl := Option.some.inj h
  exact ev_iret rfl dX8_costsOf_126 ⟨rfl, rfl, rfl⟩
theorem wm_X8_costsOf   (l1 : Int32) (mi : bv_Mem) (z : Int32 × bv_Mem) (h : f_X8_costsOf  l1 mi = some z) : bv_Met yX8_costsOf MX8_costsOf bv_X0 4 74 74 [.ref 61, .int l1] (bv_mr mi) mi (bv_QI z) :=
  bv_Met.of (pn_X 8 (by decide)) rfl (fun q => absurd q Bool.false_ne_true) (Nat.le_of_ble_eq_true rfl) (we_X8_costsOf   l1 mi z h)
set_option maxRecDepth 100000 in
set_option maxHeartbeats 4000000 in
theorem we_X8_ofBottle   (l1 : Int32) (l2 : Int32) (mi : bv_Mem) (z : Int32 × bv_Mem) (h : f_X8_ofBottle  l1 l2 mi = some z) : bv_Ev MX8_ofBottle bv_X0 5 74 74 (bv_QI z) 0 [some (.ref 61), some (.int l1), some (.int l2)] [] 74 (bv_mr mi) mi := by
  unfold f_X8_ofBottle at h
  refine ev_aload_n dX8_ofBottle_0 rfl ?_
  refine ev_iload_n dX8_ofBottle_1 rfl ?_
  obtain ⟨z1, hz1, h⟩ := bv_bd h
  refine er_VP [.int _] (fun _ _ q => q) lk_X8_115 dX8_ofBottle_2 rfl rfl rfl rfl rfl (wm_X8_isBottle _ _ _ hz1) ?_
  refine ev_if_eq 18 dX8_ofBottle_5 (by decide) (fun c1 => ?_) (fun c1 => ?_)
  · replace h := bv_tt c1 h
    refine ev_aload_n dX8_ofBottle_18 rfl ?_
    refine ev_ldc (-1000000001 : Int32) dX8_ofBottle_19 lc_X8_72 ?_
    obtain ⟨z2, hz2, h⟩ := bv_bd h
    refine er_VI [.int _] (fun _ _ q => q) lk_X8_73 dX8_ofBottle_21 rfl rfl rfl rfl rfl (wm_X8_error _ _ _ hz2) ?_
    obtain rfl := Option.some.inj h
    exact ev_iret rfl dX8_ofBottle_24 ⟨rfl, rfl, rfl⟩
  · replace h := bv_ff c1 h
    refine ev_iload_n dX8_ofBottle_8 rfl ?_
    refine ev_iconst (0 : Int32) dX8_ofBottle_9 (by decide) ?_
    refine ev_bipush (8 : Int32) dX8_ofBottle_10 (by decide) ?_
    obtain ⟨z3, hz3, h⟩ := bv_bd h
    refine er_SP [.int _, .int _, .int _] (fun _ _ q => q) lk_X8_47 dX8_ofBottle_12 rfl rfl rfl rfl (wm_X8_in _ _ _ _ _ hz3) ?_
    refine ev_if_ne 25 dX8_ofBottle_15 (by decide) (fun c2 => ?_) (fun c2 => ?_)
    · replace h := bv_ff c2 h
      refine ev_iload_n dX8_ofBottle_25 rfl ?_
      refine ev_bipush (6 : Int32) dX8_ofBottle_26 (by decide) ?_
      refine ev_icmp_ge 40 dX8_ofBottle_28 (by decide) (fun c3 => ?_) (fun c3 => ?_)
      · replace h := bv_tt c3 h
        refine ev_iload_n dX8_ofBottle_40 rfl ?_
        refine ev_bipush (6 : Int32) dX8_ofBottle_41 (by decide) ?_
        refine ev_icmp_ne 54 dX8_ofBottle_43 (by decide) (fun c4 => ?_) (fun c4 => ?_)
        · replace h := bv_ff c4 h
          refine ev_iload_n dX8_ofBottle_54 rfl ?_
          refine ev_bipush (7 : Int32) dX8_ofBottle_55 (by decide) ?_
          refine ev_icmp_ne 68 dX8_ofBottle_57 (by decide) (fun c5 => ?_) (fun c5 => ?_)
          · replace h := bv_ff c5 h
            refine ev_aload_n dX8_ofBottle_68 rfl ?_
            refine ev_iload_n dX8_ofBottle_69 rfl ?_
            obtain ⟨z4, hz4, h⟩ := bv_bd h
            refine er_VI [.int _] (fun _ _ q => q) lk_X8_118 dX8_ofBottle_70 rfl rfl rfl rfl rfl (wm_X8_costsOf _ _ _ hz4) ?_
            obtain rfl := Option.some.inj h
            exact ev_iret rfl dX8_ofBottle_73 ⟨rfl, rfl, rfl⟩
          · replace h := bv_tt c5 h
            refine ev_aload_n dX8_ofBottle_60 rfl ?_
            refine ev_iload_n dX8_ofBottle_61 rfl ?_
            obtain ⟨z5, hz5, h⟩ := bv_bd h
            refine er_VP [.int _] (fun _ _ q => q) lk_X8_99 dX8_ofBottle_62 rfl rfl rfl rfl rfl (wm_X8_leaguesOf _ _ _ hz5) ?_
            refine ev_goto 73 dX8_ofBottle_65 (by decide) ?_
            obtain rfl := Option.some.inj h
            exact ev_iret rfl dX8_ofBottle_73 ⟨rfl, rfl, rfl⟩
        · replace h := bv_tt c4 h
          refine ev_aload_n dX8_ofBottle_46 rfl ?_
          refine ev_iload_n dX8_ofBottle_47 rfl ?_
          obtain ⟨z6, hz6, h⟩ := bv_bd h
          refine er_VP [.int _] (fun _ _ q => q) lk_X8_96 dX8_ofBottle_48 rfl rfl rfl rfl rfl (wm_X8_leftIn _ _ _ hz6) ?_
          refine ev_goto 73 dX8_ofBottle_51 (by decide) ?_
          obtain rfl := Option.some.inj h
          exact ev_iret rfl dX8_ofBottle_73 ⟨rfl, rfl, rfl⟩
      · replace h := bv_ff c3 h
        refine ev_aload_n dX8_ofBottle_31 rfl ?_
        refine ev_iload_n dX8_ofBottle_32 rfl ?_
        refine ev_iload_n dX8_ofBottle_33 rfl ?_
        obtain ⟨z7, hz7, h⟩ := bv_bd h
        refine er_VP [.int _, .int _] (fun _ _ q => q) lk_X8_89 dX8_ofBottle_34 rfl rfl rfl rfl rfl (wm_X8_of _ _ _ _ hz7) ?_
        refine ev_goto 73 dX8_ofBottle_37 (by decide) ?_
        obtain rfl := Option.some.inj h
        exact ev_iret rfl dX8_ofBottle_73 ⟨rfl, rfl, rfl⟩
    · replace h := bv_tt c2 h
      refine ev_aload_n dX8_ofBottle_18 rfl ?_
      refine ev_ldc (-1000000001 : Int32) dX8_ofBottle_19 lc_X8_72 ?_
      obtain ⟨z8, hz8, h⟩ := bv_bd h
      refine er_VI [.int _] (fun _ _ q => q) lk_X8_73 dX8_ofBottle_21 rfl rfl rfl rfl rfl (wm_X8_error _ _ _ hz8) ?_
      obtain rfl := Option.some.inj h
      exact ev_iret rfl dX8_ofBottle_24 ⟨rfl, rfl, rfl⟩
theorem wm_X8_ofBottle   (l1 : Int32) (l2 : Int32) (mi : bv_Mem) (z : Int32 × bv_Mem) (h : f_X8_ofBottle  l1 l2 mi = some z) : bv_Met yX8_ofBottle MX8_ofBottle bv_X0 5 74 74 [.ref 61, .int l1, .int l2] (bv_mr mi) mi (bv_QI z) :=
  bv_Met.of (pn_X 8 (by decide)) rfl (fun q => absurd q Bool.false_ne_true) (Nat.le_of_ble_eq_true rfl) (we_X8_ofBottle   l1 l2 mi z h)
set_option maxRecDepth 100000 in
set_option maxHeartbeats 4000000 in
theorem we_X8_become   (l1 : Int32) (l2 : Int32) (mi : bv_Mem) (z : Int32 × bv_Mem) (h : f_X8_become  l1 l2 mi = some z) : bv_Ev MX8_become bv_X0 2 74 74 (bv_QI z) 0 [some (.ref 61), some (.int l1), some (.int l2)] [] 74 (bv_mr mi) mi := by
  unfold f_X8_become at h
  refine ev_aload_n dX8_become_0 rfl ?_
  refine ev_iload_n dX8_become_1 rfl ?_
  obtain ⟨z1, hz1, h⟩ := bv_bd h
  refine er_VP [.int _] (fun _ _ q => q) lk_X8_115 dX8_become_2 rfl rfl rfl rfl rfl (wm_X8_isBottle _ _ _ hz1) ?_
  refine ev_if_eq 15 dX8_become_5 (by decide) (fun c1 => ?_) (fun c1 => ?_)
  · replace h := bv_tt c1 h
    refine ev_aload_n dX8_become_15 rfl ?_
    refine ev_ldc (-1000000001 : Int32) dX8_become_16 lc_X8_72 ?_
    obtain ⟨z2, hz2, h⟩ := bv_bd h
    refine er_VI [.int _] (fun _ _ q => q) lk_X8_73 dX8_become_18 rfl rfl rfl rfl rfl (wm_X8_error _ _ _ hz2) ?_
    obtain rfl := Option.some.inj h
    exact ev_iret rfl dX8_become_21 ⟨rfl, rfl, rfl⟩
  · replace h := bv_ff c1 h
    refine ev_iload_n dX8_become_8 rfl ?_
    obtain ⟨z3, hz3, h⟩ := bv_bd h
    refine er_SP [.int _] (fun _ _ q => q) lk_X8_106 dX8_become_9 rfl rfl rfl rfl (wm_X8_isKm _ _ _ hz3) ?_
    refine ev_if_ne 22 dX8_become_12 (by decide) (fun c2 => ?_) (fun c2 => ?_)
    · replace h := bv_ff c2 h
      refine ev_aload_n dX8_become_22 rfl ?_
      refine ev_iload_n dX8_become_23 rfl ?_
      refine ev_iconst (1 : Int32) dX8_become_24 (by decide) ?_
      refine ev_iload_n dX8_become_25 rfl ?_
      refine ev_bipush (10 : Int32) dX8_become_26 (by decide) ?_
      refine ev_irem dX8_become_28 (by decide) ?_
      obtain ⟨z4, hz4, h⟩ := bv_bd h
      refine er_VV [.int _, .int _, .int _] (fun _ _ q => q) lk_X8_111 dX8_become_29 rfl rfl rfl rfl rfl (wm_X8_lay _ _ _ _ _ hz4) ?_
      refine ev_aload_n dX8_become_32 rfl ?_
      refine ev_bipush (51 : Int32) dX8_become_33 (by decide) ?_
      refine ev_bipush (6 : Int32) dX8_become_35 (by decide) ?_
      refine ev_iload_n dX8_become_37 rfl ?_
      refine ev_imul dX8_become_38 ?_
      refine ev_iadd dX8_become_39 ?_
      refine ev_iload_n dX8_become_40 rfl ?_
      refine ev_bipush (10 : Int32) dX8_become_41 (by decide) ?_
      refine ev_idiv dX8_become_43 (by decide) ?_
      obtain ⟨z5, hz5, h⟩ := bv_bd h
      refine er_VI [.int _, .int _] (fun _ _ q => q) lk_X8_76 dX8_become_44 rfl rfl rfl rfl rfl (wm_X8_becomes _ _ _ _ hz5) ?_
      obtain rfl := Option.some.inj h
      exact ev_iret rfl dX8_become_47 ⟨rfl, rfl, rfl⟩
    · replace h := bv_tt c2 h
      refine ev_aload_n dX8_become_15 rfl ?_
      refine ev_ldc (-1000000001 : Int32) dX8_become_16 lc_X8_72 ?_
      obtain ⟨z6, hz6, h⟩ := bv_bd h
      refine er_VI [.int _] (fun _ _ q => q) lk_X8_73 dX8_become_18 rfl rfl rfl rfl rfl (wm_X8_error _ _ _ hz6) ?_
      obtain rfl := Option.some.inj h
      exact ev_iret rfl dX8_become_21 ⟨rfl, rfl, rfl⟩
theorem wm_X8_become   (l1 : Int32) (l2 : Int32) (mi : bv_Mem) (z : Int32 × bv_Mem) (h : f_X8_become  l1 l2 mi = some z) : bv_Met yX8_become MX8_become bv_X0 2 74 74 [.ref 61, .int l1, .int l2] (bv_mr mi) mi (bv_QI z) :=
  bv_Met.of (pn_X 8 (by decide)) rfl (fun q => absurd q Bool.false_ne_true) (Nat.le_of_ble_eq_true rfl) (we_X8_become   l1 l2 mi z h)
set_option maxRecDepth 100000 in
set_option maxHeartbeats 4000000 in
theorem wb_X8_isUnder_29 (mi : bv_Mem) (l0 : Int32) (l1 : Int32) (z : Int32) (h : b_X8_isUnder_29 mi l0 l1 = some z) : bv_Ev MX8_isUnder bv_X0 0 74 74 (bv_QP z mi) 29 [some (.int l0), some (.int l1)] [] 74 (bv_mr mi) mi := by
  unfold b_X8_isUnder_29 at h
  refine ev_iload_n dX8_isUnder_29 rfl ?_
  refine ev_iconst (3 : Int32) dX8_isUnder_30 (by decide) ?_
  refine ev_icmp_ne 44 dX8_isUnder_31 (by decide) (fun c1 => ?_) (fun c1 => ?_)
  · replace h := bv_ff c1 h
    refine ev_iconst (0 : Int32) dX8_isUnder_44 (by decide) ?_
    obtain rfl := Option.some.inj h
    exact ev_zret rfl (Or.inl rfl) dX8_isUnder_45 ⟨rfl, rfl, rfl⟩
  · replace h := bv_tt c1 h
    refine ev_iload_n dX8_isUnder_34 rfl ?_
    refine ev_bipush (6 : Int32) dX8_isUnder_35 (by decide) ?_
    refine ev_icmp_ne 44 dX8_isUnder_37 (by decide) (fun c2 => ?_) (fun c2 => ?_)
    · replace h := bv_ff c2 h
      refine ev_iconst (0 : Int32) dX8_isUnder_44 (by decide) ?_
      obtain rfl := Option.some.inj h
      exact ev_zret rfl (Or.inl rfl) dX8_isUnder_45 ⟨rfl, rfl, rfl⟩
    · replace h := bv_tt c2 h
      refine ev_iconst (1 : Int32) dX8_isUnder_40 (by decide) ?_
      refine ev_goto 45 dX8_isUnder_41 (by decide) ?_
      obtain rfl := Option.some.inj h
      exact ev_zret rfl (Or.inr rfl) dX8_isUnder_45 ⟨rfl, rfl, rfl⟩
set_option maxRecDepth 100000 in
set_option maxHeartbeats 4000000 in
theorem wb_X8_isUnder_19 (mi : bv_Mem) (l0 : Int32) (l1 : Int32) (z : Int32) (h : b_X8_isUnder_19 mi l0 l1 = some z) : bv_Ev MX8_isUnder bv_X0 0 74 74 (bv_QP z mi) 19 [some (.int l0), some (.int l1)] [] 74 (bv_mr mi) mi := by
  unfold b_X8_isUnder_19 at h
  refine ev_iload_n dX8_isUnder_19 rfl ?_
  refine ev_iconst (2 : Int32) dX8_isUnder_20 (by decide) ?_
  refine ev_icmp_ne 29 dX8_isUnder_21 (by decide) (fun c1 => ?_) (fun c1 => ?_)
  · replace h := bv_ff c1 h
    exact ev_weak (by exact And.intro rfl (And.intro rfl (trivial))) (wb_X8_isUnder_29 mi _ _ _ h)
  · replace h := bv_tt c1 h
    refine ev_iload_n dX8_isUnder_24 rfl ?_
    refine ev_iconst (5 : Int32) dX8_isUnder_25 (by decide) ?_
    refine ev_icmp_eq 40 dX8_isUnder_26 (by decide) (fun c2 => ?_) (fun c2 => ?_)
    · replace h := bv_tt c2 h
      refine ev_iconst (1 : Int32) dX8_isUnder_40 (by decide) ?_
      refine ev_goto 45 dX8_isUnder_41 (by decide) ?_
      obtain rfl := Option.some.inj h
      exact ev_zret rfl (Or.inr rfl) dX8_isUnder_45 ⟨rfl, rfl, rfl⟩
    · replace h := bv_ff c2 h
      exact ev_weak (by exact And.intro rfl (And.intro rfl (trivial))) (wb_X8_isUnder_29 mi _ _ _ h)
set_option maxRecDepth 100000 in
set_option maxHeartbeats 4000000 in
theorem we_X8_isUnder   (l0 : Int32) (l1 : Int32) (mi : bv_Mem) (z : Int32) (h : f_X8_isUnder  l0 l1 mi = some z) : bv_Ev MX8_isUnder bv_X0 0 74 74 (bv_QP z mi) 0 [some (.int l0), some (.int l1)] [] 74 (bv_mr mi) mi := by
  unfold f_X8_isUnder at h
  refine ev_iload_n dX8_isUnder_0 rfl ?_
  refine ev_if_eq 40 dX8_isUnder_1 (by decide) (fun c1 => ?_) (fun c1 => ?_)
  · replace h := bv_tt c1 h
    refine ev_iconst (1 : Int32) dX8_isUnder_40 (by decide) ?_
    refine ev_goto 45 dX8_isUnder_41 (by decide) ?_
    obtain rfl := Option.some.inj h
    exact ev_zret rfl (Or.inr rfl) dX8_isUnder_45 ⟨rfl, rfl, rfl⟩
  · replace h := bv_ff c1 h
    refine ev_iload_n dX8_isUnder_4 rfl ?_
    refine ev_iload_n dX8_isUnder_5 rfl ?_
    refine ev_icmp_eq 40 dX8_isUnder_6 (by decide) (fun c2 => ?_) (fun c2 => ?_)
    · replace h := bv_tt c2 h
      refine ev_iconst (1 : Int32) dX8_isUnder_40 (by decide) ?_
      refine ev_goto 45 dX8_isUnder_41 (by decide) ?_
      obtain rfl := Option.some.inj h
      exact ev_zret rfl (Or.inr rfl) dX8_isUnder_45 ⟨rfl, rfl, rfl⟩
    · replace h := bv_ff c2 h
      refine ev_iload_n dX8_isUnder_9 rfl ?_
      refine ev_iconst (1 : Int32) dX8_isUnder_10 (by decide) ?_
      refine ev_icmp_ne 19 dX8_isUnder_11 (by decide) (fun c3 => ?_) (fun c3 => ?_)
      · replace h := bv_ff c3 h
        exact ev_weak (by exact And.intro rfl (And.intro rfl (trivial))) (wb_X8_isUnder_19 mi _ _ _ h)
      · replace h := bv_tt c3 h
        refine ev_iload_n dX8_isUnder_14 rfl ?_
        refine ev_iconst (4 : Int32) dX8_isUnder_15 (by decide) ?_
        refine ev_icmp_eq 40 dX8_isUnder_16 (by decide) (fun c4 => ?_) (fun c4 => ?_)
        · replace h := bv_tt c4 h
          refine ev_iconst (1 : Int32) dX8_isUnder_40 (by decide) ?_
          refine ev_goto 45 dX8_isUnder_41 (by decide) ?_
          obtain rfl := Option.some.inj h
          exact ev_zret rfl (Or.inr rfl) dX8_isUnder_45 ⟨rfl, rfl, rfl⟩
        · replace h := bv_ff c4 h
          exact ev_weak (by exact And.intro rfl (And.intro rfl (trivial))) (wb_X8_isUnder_19 mi _ _ _ h)
theorem wm_X8_isUnder   (l0 : Int32) (l1 : Int32) (mi : bv_Mem) (z : Int32) (h : f_X8_isUnder  l0 l1 mi = some z) : bv_Met yX8_isUnder MX8_isUnder bv_X0 0 74 74 [.int l0, .int l1] (bv_mr mi) mi (bv_QP z mi) :=
  bv_Met.of (pn_X 8 (by decide)) rfl (fun q => absurd q Bool.false_ne_true) (Nat.le_of_ble_eq_true rfl) (we_X8_isUnder   l0 l1 mi z h)
set_option maxRecDepth 100000 in
set_option maxHeartbeats 4000000 in
theorem we_X8_as   (l1 : Int32) (l2 : Int32) (mi : bv_Mem) (z : Int32 × bv_Mem) (h : f_X8_as  l1 l2 mi = some z) : bv_Ev MX8_as bv_X0 2 74 74 (bv_QI z) 0 [some (.ref 61), some (.int l1), some (.int l2)] [] 74 (bv_mr mi) mi := by
  unfold f_X8_as at h
  refine ev_aload_n dX8_as_0 rfl ?_
  refine ev_iload_n dX8_as_1 rfl ?_
  obtain ⟨z1, hz1, h⟩ := bv_bd h
  refine er_VP [.int _] (fun _ _ q => q) lk_X8_115 dX8_as_2 rfl rfl rfl rfl rfl (wm_X8_isBottle _ _ _ hz1) ?_
  refine ev_if_eq 18 dX8_as_5 (by decide) (fun c1 => ?_) (fun c1 => ?_)
  · replace h := bv_tt c1 h
    refine ev_aload_n dX8_as_18 rfl ?_
    refine ev_ldc (-1000000001 : Int32) dX8_as_19 lc_X8_72 ?_
    obtain ⟨z2, hz2, h⟩ := bv_bd h
    refine er_VI [.int _] (fun _ _ q => q) lk_X8_73 dX8_as_21 rfl rfl rfl rfl rfl (wm_X8_error _ _ _ hz2) ?_
    obtain rfl := Option.some.inj h
    exact ev_iret rfl dX8_as_24 ⟨rfl, rfl, rfl⟩
  · replace h := bv_ff c1 h
    refine ev_iload_n dX8_as_8 rfl ?_
    refine ev_iconst (0 : Int32) dX8_as_9 (by decide) ?_
    refine ev_bipush (6 : Int32) dX8_as_10 (by decide) ?_
    obtain ⟨z3, hz3, h⟩ := bv_bd h
    refine er_SP [.int _, .int _, .int _] (fun _ _ q => q) lk_X8_47 dX8_as_12 rfl rfl rfl rfl (wm_X8_in _ _ _ _ _ hz3) ?_
    refine ev_if_ne 25 dX8_as_15 (by decide) (fun c2 => ?_) (fun c2 => ?_)
    · replace h := bv_ff c2 h
      refine ev_aload_n dX8_as_25 rfl ?_
      refine ev_iload_n dX8_as_26 rfl ?_
      refine ev_iconst (0 : Int32) dX8_as_27 (by decide) ?_
      obtain ⟨z4, hz4, h⟩ := bv_bd h
      refine er_VP [.int _, .int _] (fun _ _ q => q) lk_X8_89 dX8_as_28 rfl rfl rfl rfl rfl (wm_X8_of _ _ _ _ hz4) ?_
      refine ev_iload_n dX8_as_31 rfl ?_
      obtain ⟨z5, hz5, h⟩ := bv_bd h
      refine er_SP [.int _, .int _] (fun _ _ q => q) lk_X8_121 dX8_as_32 rfl rfl rfl rfl (wm_X8_isUnder _ _ _ _ hz5) ?_
      refine ev_if_eq 47 dX8_as_35 (by decide) (fun c3 => ?_) (fun c3 => ?_)
      · replace h := bv_tt c3 h
        refine ev_aload_n dX8_as_47 rfl ?_
        refine ev_ldc (-1000000005 : Int32) dX8_as_48 lc_X8_125 ?_
        obtain ⟨z6, hz6, h⟩ := bv_bd h
        refine er_VI [.int _] (fun _ _ q => q) lk_X8_73 dX8_as_50 rfl rfl rfl rfl rfl (wm_X8_error _ _ _ hz6) ?_
        obtain rfl := Option.some.inj h
        exact ev_iret rfl dX8_as_53 ⟨rfl, rfl, rfl⟩
      · replace h := bv_ff c3 h
        refine ev_aload_n dX8_as_38 rfl ?_
        refine ev_iload_n dX8_as_39 rfl ?_
        refine ev_iconst (1 : Int32) dX8_as_40 (by decide) ?_
        obtain ⟨z7, hz7, h⟩ := bv_bd h
        refine er_VP [.int _, .int _] (fun _ _ q => q) lk_X8_89 dX8_as_41 rfl rfl rfl rfl rfl (wm_X8_of _ _ _ _ hz7) ?_
        refine ev_goto 53 dX8_as_44 (by decide) ?_
        obtain rfl := Option.some.inj h
        exact ev_iret rfl dX8_as_53 ⟨rfl, rfl, rfl⟩
    · replace h := bv_tt c2 h
      refine ev_aload_n dX8_as_18 rfl ?_
      refine ev_ldc (-1000000001 : Int32) dX8_as_19 lc_X8_72 ?_
      obtain ⟨z8, hz8, h⟩ := bv_bd h
      refine er_VI [.int _] (fun _ _ q => q) lk_X8_73 dX8_as_21 rfl rfl rfl rfl rfl (wm_X8_error _ _ _ hz8) ?_
      obtain rfl := Option.some.inj h
      exact ev_iret rfl dX8_as_24 ⟨rfl, rfl, rfl⟩
theorem wm_X8_as   (l1 : Int32) (l2 : Int32) (mi : bv_Mem) (z : Int32 × bv_Mem) (h : f_X8_as  l1 l2 mi = some z) : bv_Met yX8_as MX8_as bv_X0 2 74 74 [.ref 61, .int l1, .int l2] (bv_mr mi) mi (bv_QI z) :=
  bv_Met.of (pn_X 8 (by decide)) rfl (fun q => absurd q Bool.false_ne_true) (Nat.le_of_ble_eq_true rfl) (we_X8_as   l1 l2 mi z h)
set_option maxRecDepth 100000 in
set_option maxHeartbeats 4000000 in
theorem wb_X8_open_87 (k_43 : Int32 → Int32 → Int32 → Int32 → bv_Mem → Option (Int32 × bv_Mem)) (hk_43 : ∀ (l1 : Int32) (l2 : Int32) (l3 : Int32) (l4 : Int32) (mi : bv_Mem) (z : Int32 × bv_Mem), k_43 l1 l2 l3 l4 mi = some z → bv_Ev MX8_open bv_X0 3 74 74 (bv_QI z) 43 [some (.ref 61), some (.int l1), some (.int l2), some (.int l3), some (.int l4), none] [] 74 (bv_mr mi) mi) (l1 : Int32) (l2 : Int32) (l4 : Int32) (l5 : Int32) (s0 : Int32) (s1 : Int32) (mi : bv_Mem) (z : Int32 × bv_Mem) (h : b_X8_open_87 k_43 l1 l2 l4 l5 s0 s1 mi = some z) : bv_Ev MX8_open bv_X0 3 74 74 (bv_QI z) 87 [some (.ref 61), some (.int l1), some (.int l2), none, some (.int l4), some (.int l5)] [.int s1, .int s0] 74 (bv_mr mi) mi := by
  unfold b_X8_open_87 at h
  refine ev_iadd dX8_open_87 ?_
  refine ev_istore_n dX8_open_88 rfl rfl ?_
  refine ev_aload_n dX8_open_89 rfl ?_
  refine ev_getR 62 lf_X8_9 dX8_open_90 rfl rfl rfl ?_
  refine ev_bipush (31 : Int32) dX8_open_93 (by decide) ?_
  refine ev_iload dX8_open_95 rfl ?_
  refine ev_iadd dX8_open_97 ?_
  refine ev_iload dX8_open_98 rfl ?_
  refine ev_if_eq 107 dX8_open_100 (by decide) (fun c1 => ?_) (fun c1 => ?_)
  · replace h := bv_tt c1 h
    refine ev_aload_n dX8_open_107 rfl ?_
    refine ev_getR 62 lf_X8_9 dX8_open_108 rfl rfl rfl ?_
    refine ev_bipush (31 : Int32) dX8_open_111 (by decide) ?_
    refine ev_iload dX8_open_113 rfl ?_
    refine ev_iadd dX8_open_115 ?_
    obtain ⟨g1, h⟩ := bv_gd h
    refine ev_iald (N := 371) dX8_open_116 rfl g1 ?_
    refine er_iast (N := 371) dX8_open_117 rfl g1 ?_
    refine ev_iinc (l4 + 1) dX8_open_118 rfl rfl rfl rfl ?_
    refine ev_goto 43 dX8_open_121 (by decide) ?_
    exact ev_weak (by exact And.intro rfl (And.intro rfl (And.intro rfl (And.intro rfl (And.intro rfl (trivial)))))) (hk_43 _ _ _ _ _ _ h)
  · replace h := bv_ff c1 h
    refine ev_iconst (0 : Int32) dX8_open_103 (by decide) ?_
    refine ev_goto 117 dX8_open_104 (by decide) ?_
    obtain ⟨g2, h⟩ := bv_gd h
    refine er_iast (N := 371) dX8_open_117 rfl g2 ?_
    refine ev_iinc (l4 + 1) dX8_open_118 rfl rfl rfl rfl ?_
    refine ev_goto 43 dX8_open_121 (by decide) ?_
    exact ev_weak (by exact And.intro rfl (And.intro rfl (And.intro rfl (And.intro rfl (And.intro rfl (trivial)))))) (hk_43 _ _ _ _ _ _ h)
set_option maxRecDepth 100000 in
set_option maxHeartbeats 4000000 in
theorem wb_X8_open_74 (k_43 : Int32 → Int32 → Int32 → Int32 → bv_Mem → Option (Int32 × bv_Mem)) (hk_43 : ∀ (l1 : Int32) (l2 : Int32) (l3 : Int32) (l4 : Int32) (mi : bv_Mem) (z : Int32 × bv_Mem), k_43 l1 l2 l3 l4 mi = some z → bv_Ev MX8_open bv_X0 3 74 74 (bv_QI z) 43 [some (.ref 61), some (.int l1), some (.int l2), some (.int l3), some (.int l4), none] [] 74 (bv_mr mi) mi) (l1 : Int32) (l2 : Int32) (l3 : Int32) (l4 : Int32) (s0 : Int32) (mi : bv_Mem) (z : Int32 × bv_Mem) (h : b_X8_open_74 k_43 l1 l2 l3 l4 s0 mi = some z) : bv_Ev MX8_open bv_X0 3 74 74 (bv_QI z) 74 [some (.ref 61), some (.int l1), some (.int l2), some (.int l3), some (.int l4), none] [.int s0] 74 (bv_mr mi) mi := by
  unfold b_X8_open_74 at h
  refine ev_istore dX8_open_74 rfl rfl ?_
  refine ev_iload_n dX8_open_76 rfl ?_
  refine ev_iload dX8_open_77 rfl ?_
  refine ev_if_eq 86 dX8_open_79 (by decide) (fun c1 => ?_) (fun c1 => ?_)
  · replace h := bv_tt c1 h
    refine ev_iconst (0 : Int32) dX8_open_86 (by decide) ?_
    exact ev_weak (by exact And.intro rfl (And.intro rfl (And.intro rfl (And.intro rfl (And.intro rfl (trivial)))))) (wb_X8_open_87 k_43 hk_43 _ _ _ _ _ _ _ _ h)
  · replace h := bv_ff c1 h
    refine ev_iconst (1 : Int32) dX8_open_82 (by decide) ?_
    refine ev_goto 87 dX8_open_83 (by decide) ?_
    exact ev_weak (by exact And.intro rfl (And.intro rfl (And.intro rfl (And.intro rfl (And.intro rfl (trivial)))))) (wb_X8_open_87 k_43 hk_43 _ _ _ _ _ _ _ _ h)
set_option maxRecDepth 100000 in
set_option maxHeartbeats 4000000 in
theorem wb_X8_open_73 (k_43 : Int32 → Int32 → Int32 → Int32 → bv_Mem → Option (Int32 × bv_Mem)) (hk_43 : ∀ (l1 : Int32) (l2 : Int32) (l3 : Int32) (l4 : Int32) (mi : bv_Mem) (z : Int32 × bv_Mem), k_43 l1 l2 l3 l4 mi = some z → bv_Ev MX8_open bv_X0 3 74 74 (bv_QI z) 43 [some (.ref 61), some (.int l1), some (.int l2), some (.int l3), some (.int l4), none] [] 74 (bv_mr mi) mi) (l1 : Int32) (l2 : Int32) (l3 : Int32) (l4 : Int32) (mi : bv_Mem) (z : Int32 × bv_Mem) (h : b_X8_open_73 k_43 l1 l2 l3 l4 mi = some z) : bv_Ev MX8_open bv_X0 3 74 74 (bv_QI z) 73 [some (.ref 61), some (.int l1), some (.int l2), some (.int l3), some (.int l4), none] [] 74 (bv_mr mi) mi := by
  unfold b_X8_open_73 at h
  refine ev_iconst (0 : Int32) dX8_open_73 (by decide) ?_
  exact ev_weak (by exact And.intro rfl (And.intro rfl (And.intro rfl (And.intro rfl (And.intro rfl (trivial)))))) (wb_X8_open_74 k_43 hk_43 _ _ _ _ _ _ _ h)
set_option maxRecDepth 100000 in
set_option maxHeartbeats 4000000 in
theorem wb_X8_open_43  : ∀ (fu : Nat) (l1 : Int32) (l2 : Int32) (l3 : Int32) (l4 : Int32) (mi : bv_Mem) (z : Int32 × bv_Mem), b_X8_open_43 fu l1 l2 l3 l4 mi = some z → bv_Ev MX8_open bv_X0 3 74 74 (bv_QI z) 43 [some (.ref 61), some (.int l1), some (.int l2), some (.int l3), some (.int l4), none] [] 74 (bv_mr mi) mi := by
  intro fu
  induction fu with
  | zero =>
    intro l1 l2 l3 l4 mi z h
    rw [b_X8_open_43] at h
    cases h
  | succ fu ih =>
    intro l1 l2 l3 l4 mi z h
    rw [b_X8_open_43] at h
    refine ev_iload dX8_open_43 rfl ?_
    refine ev_bipush (20 : Int32) dX8_open_45 (by decide) ?_
    refine ev_icmp_ge 124 dX8_open_47 (by decide) (fun c1 => ?_) (fun c1 => ?_)
    · replace h := bv_tt c1 h
      refine ev_aload_n dX8_open_124 rfl ?_
      refine ev_iload_n dX8_open_125 rfl ?_
      refine ev_iconst (3 : Int32) dX8_open_126 (by decide) ?_
      refine ev_iconst (0 : Int32) dX8_open_127 (by decide) ?_
      obtain ⟨z1, hz1, h⟩ := bv_bd h
      refine er_VV [.int _, .int _, .int _] (fun _ _ q => q) lk_X8_111 dX8_open_128 rfl rfl rfl rfl rfl (wm_X8_lay _ _ _ _ _ hz1) ?_
      refine ev_aload_n dX8_open_131 rfl ?_
      refine ev_iload_n dX8_open_132 rfl ?_
      refine ev_iconst (5 : Int32) dX8_open_133 (by decide) ?_
      refine ev_iconst (1 : Int32) dX8_open_134 (by decide) ?_
      obtain ⟨z2, hz2, h⟩ := bv_bd h
      refine er_VV [.int _, .int _, .int _] (fun _ _ q => q) lk_X8_111 dX8_open_135 rfl rfl rfl rfl rfl (wm_X8_lay _ _ _ _ _ hz2) ?_
      refine ev_iload_n dX8_open_138 rfl ?_
      obtain rfl := Option.some.inj h
      exact ev_iret rfl dX8_open_139 ⟨rfl, rfl, rfl⟩
    · replace h := bv_ff c1 h
      refine ev_iload_n dX8_open_50 rfl ?_
      refine ev_iload dX8_open_51 rfl ?_
      refine ev_ishr dX8_open_53 ?_
      refine ev_iconst (1 : Int32) dX8_open_54 (by decide) ?_
      refine ev_iand dX8_open_55 ?_
      refine ev_iconst (1 : Int32) dX8_open_56 (by decide) ?_
      refine ev_icmp_ne 73 dX8_open_57 (by decide) (fun c2 => ?_) (fun c2 => ?_)
      · replace h := bv_ff c2 h
        exact ev_weak (by exact And.intro rfl (And.intro rfl (And.intro rfl (And.intro rfl (And.intro rfl (trivial)))))) (wb_X8_open_73 (b_X8_open_43 fu) ih _ _ _ _ _ _ h)
      · replace h := bv_tt c2 h
        refine ev_aload_n dX8_open_60 rfl ?_
        refine ev_iload dX8_open_61 rfl ?_
        obtain ⟨z3, hz3, h⟩ := bv_bd h
        refine er_VP [.int _] (fun _ _ q => q) lk_X8_51 dX8_open_63 rfl rfl rfl rfl rfl (wm_X8_isThere _ _ _ hz3) ?_
        refine ev_if_ne 73 dX8_open_66 (by decide) (fun c3 => ?_) (fun c3 => ?_)
        · replace h := bv_ff c3 h
          exact ev_weak (by exact And.intro rfl (And.intro rfl (And.intro rfl (And.intro rfl (And.intro rfl (trivial)))))) (wb_X8_open_73 (b_X8_open_43 fu) ih _ _ _ _ _ _ h)
        · replace h := bv_tt c3 h
          refine ev_iconst (1 : Int32) dX8_open_69 (by decide) ?_
          refine ev_goto 74 dX8_open_70 (by decide) ?_
          exact ev_weak (by exact And.intro rfl (And.intro rfl (And.intro rfl (And.intro rfl (And.intro rfl (trivial)))))) (wb_X8_open_74 (b_X8_open_43 fu) ih _ _ _ _ _ _ _ h)
set_option maxRecDepth 100000 in
set_option maxHeartbeats 4000000 in
theorem we_X8_open   (l1 : Int32) (mi : bv_Mem) (z : Int32 × bv_Mem) (h : f_X8_open  l1 mi = some z) : bv_Ev MX8_open bv_X0 3 74 74 (bv_QI z) 0 [some (.ref 61), some (.int l1), none, none, none, none] [] 74 (bv_mr mi) mi := by
  unfold f_X8_open at h
  refine ev_aload_n dX8_open_0 rfl ?_
  refine ev_iload_n dX8_open_1 rfl ?_
  obtain ⟨z1, hz1, h⟩ := bv_bd h
  refine er_VP [.int _] (fun _ _ q => q) lk_X8_115 dX8_open_2 rfl rfl rfl rfl rfl (wm_X8_isBottle _ _ _ hz1) ?_
  refine ev_if_ne 15 dX8_open_5 (by decide) (fun c1 => ?_) (fun c1 => ?_)
  · replace h := bv_ff c1 h
    refine ev_aload_n dX8_open_15 rfl ?_
    refine ev_iload_n dX8_open_16 rfl ?_
    refine ev_iconst (5 : Int32) dX8_open_17 (by decide) ?_
    obtain ⟨z2, hz2, h⟩ := bv_bd h
    refine er_VP [.int _, .int _] (fun _ _ q => q) lk_X8_89 dX8_open_18 rfl rfl rfl rfl rfl (wm_X8_of _ _ _ _ hz2) ?_
    refine ev_iconst (1 : Int32) dX8_open_21 (by decide) ?_
    refine ev_icmp_ne 32 dX8_open_22 (by decide) (fun c2 => ?_) (fun c2 => ?_)
    · replace h := bv_ff c2 h
      refine ev_aload_n dX8_open_32 rfl ?_
      refine ev_iload_n dX8_open_33 rfl ?_
      obtain ⟨z3, hz3, h⟩ := bv_bd h
      refine er_VP [.int _] (fun _ _ q => q) lk_X8_96 dX8_open_34 rfl rfl rfl rfl rfl (wm_X8_leftIn _ _ _ hz3) ?_
      refine ev_istore_n dX8_open_37 rfl rfl ?_
      refine ev_iconst (0 : Int32) dX8_open_38 (by decide) ?_
      refine ev_istore_n dX8_open_39 rfl rfl ?_
      refine ev_iconst (0 : Int32) dX8_open_40 (by decide) ?_
      refine ev_istore dX8_open_41 rfl rfl ?_
      exact ev_weak (by exact And.intro rfl (And.intro rfl (And.intro rfl (And.intro rfl (And.intro rfl (trivial)))))) (wb_X8_open_43  400 _ _ _ _ _ _ h)
    · replace h := bv_tt c2 h
      refine ev_aload_n dX8_open_25 rfl ?_
      refine ev_ldc (-1000000003 : Int32) dX8_open_26 lc_X8_110 ?_
      obtain ⟨z4, hz4, h⟩ := bv_bd h
      refine er_VI [.int _] (fun _ _ q => q) lk_X8_73 dX8_open_28 rfl rfl rfl rfl rfl (wm_X8_error _ _ _ hz4) ?_
      obtain rfl := Option.some.inj h
      exact ev_iret rfl dX8_open_31 ⟨rfl, rfl, rfl⟩
  · replace h := bv_tt c1 h
    refine ev_aload_n dX8_open_8 rfl ?_
    refine ev_ldc (-1000000001 : Int32) dX8_open_9 lc_X8_72 ?_
    obtain ⟨z5, hz5, h⟩ := bv_bd h
    refine er_VI [.int _] (fun _ _ q => q) lk_X8_73 dX8_open_11 rfl rfl rfl rfl rfl (wm_X8_error _ _ _ hz5) ?_
    obtain rfl := Option.some.inj h
    exact ev_iret rfl dX8_open_14 ⟨rfl, rfl, rfl⟩
theorem wm_X8_open   (l1 : Int32) (mi : bv_Mem) (z : Int32 × bv_Mem) (h : f_X8_open  l1 mi = some z) : bv_Met yX8_open MX8_open bv_X0 3 74 74 [.ref 61, .int l1] (bv_mr mi) mi (bv_QI z) :=
  bv_Met.of (pn_X 8 (by decide)) rfl (fun q => absurd q Bool.false_ne_true) (Nat.le_of_ble_eq_true rfl) (we_X8_open   l1 mi z h)
set_option maxRecDepth 100000 in
set_option maxHeartbeats 4000000 in
theorem wb_X8_feed_40  : ∀ (fu : Nat) (l1 : Int64) (l3 : Int32) (l4 : Int32) (mi : bv_Mem) (z : Int32 × bv_Mem), b_X8_feed_40 fu l1 l3 l4 mi = some z → bv_Ev MX8_feed bv_X0 1 74 74 (bv_QI z) 40 [some (.ref 61), some (.long l1), none, some (.int l3), some (.int l4)] [] 74 (bv_mr mi) mi := by
  intro fu
  induction fu with
  | zero =>
    intro l1 l3 l4 mi z h
    rw [b_X8_feed_40] at h
    cases h
  | succ fu ih =>
    intro l1 l3 l4 mi z h
    rw [b_X8_feed_40] at h
    refine ev_iload dX8_feed_40 rfl ?_
    refine ev_iload_n dX8_feed_42 rfl ?_
    refine ev_icmp_ge 88 dX8_feed_43 (by decide) (fun c1 => ?_) (fun c1 => ?_)
    · replace h := bv_tt c1 h
      refine ev_aload_n dX8_feed_88 rfl ?_
      refine ev_getR 62 lf_X8_9 dX8_feed_89 rfl rfl rfl ?_
      refine ev_iconst (4 : Int32) dX8_feed_92 (by decide) ?_
      refine er_ialdk (N := 371) 4 dX8_feed_93 rfl rfl rfl ?_
      obtain rfl := Option.some.inj h
      exact ev_iret rfl dX8_feed_94 ⟨rfl, rfl, rfl⟩
    · replace h := bv_ff c1 h
      refine ev_aload_n dX8_feed_46 rfl ?_
      refine ev_getR 62 lf_X8_9 dX8_feed_47 rfl rfl rfl ?_
      refine ev_bipush (99 : Int32) dX8_feed_50 (by decide) ?_
      refine ev_aload_n dX8_feed_52 rfl ?_
      refine ev_getR 62 lf_X8_9 dX8_feed_53 rfl rfl rfl ?_
      refine ev_iconst (4 : Int32) dX8_feed_56 (by decide) ?_
      refine er_ialdk (N := 371) 4 dX8_feed_57 rfl rfl rfl ?_
      refine ev_iadd dX8_feed_58 ?_
      refine ev_lload_n dX8_feed_59 rfl ?_
      refine ev_bipush (8 : Int32) dX8_feed_60 (by decide) ?_
      refine ev_iload dX8_feed_62 rfl ?_
      refine ev_imul dX8_feed_64 ?_
      refine ev_lshr dX8_feed_65 ?_
      refine ev_ldc2 (255 : Int64) dX8_feed_66 lc_X8_126 ?_
      refine ev_land dX8_feed_69 ?_
      refine ev_l2i dX8_feed_70 ?_
      obtain ⟨g1, h⟩ := bv_gd h
      refine er_iast (N := 371) dX8_feed_71 rfl g1 ?_
      refine ev_aload_n dX8_feed_72 rfl ?_
      refine ev_getR 62 lf_X8_9 dX8_feed_73 rfl rfl rfl ?_
      refine ev_iconst (4 : Int32) dX8_feed_76 (by decide) ?_
      refine ev_dup2 dX8_feed_77 rfl rfl ?_
      refine er_ialdk (N := 371) 4 dX8_feed_78 rfl rfl rfl ?_
      refine ev_iconst (1 : Int32) dX8_feed_79 (by decide) ?_
      refine ev_iadd dX8_feed_80 ?_
      refine er_iastk (N := 371) 4 dX8_feed_81 rfl rfl rfl ?_
      refine ev_iinc (l4 + 1) dX8_feed_82 rfl rfl rfl rfl ?_
      refine ev_goto 40 dX8_feed_85 (by decide) ?_
      exact ev_weak (by exact And.intro rfl (And.intro rfl (And.intro rfl (And.intro rfl (trivial))))) (ih _ _ _ _ _ h)
set_option maxRecDepth 100000 in
set_option maxHeartbeats 4000000 in
theorem we_X8_feed   (l1 : Int64) (l3 : Int32) (mi : bv_Mem) (z : Int32 × bv_Mem) (h : f_X8_feed  l1 l3 mi = some z) : bv_Ev MX8_feed bv_X0 1 74 74 (bv_QI z) 0 [some (.ref 61), some (.long l1), none, some (.int l3), none] [] 74 (bv_mr mi) mi := by
  unfold f_X8_feed at h
  refine ev_iload_n dX8_feed_0 rfl ?_
  refine ev_iconst (1 : Int32) dX8_feed_1 (by decide) ?_
  refine ev_bipush (8 : Int32) dX8_feed_2 (by decide) ?_
  obtain ⟨z1, hz1, h⟩ := bv_bd h
  refine er_SP [.int _, .int _, .int _] (fun _ _ q => q) lk_X8_47 dX8_feed_4 rfl rfl rfl rfl (wm_X8_in _ _ _ _ _ hz1) ?_
  refine ev_if_ne 17 dX8_feed_7 (by decide) (fun c1 => ?_) (fun c1 => ?_)
  · replace h := bv_ff c1 h
    refine ev_aload_n dX8_feed_17 rfl ?_
    refine ev_getR 62 lf_X8_9 dX8_feed_18 rfl rfl rfl ?_
    refine ev_iconst (4 : Int32) dX8_feed_21 (by decide) ?_
    refine er_ialdk (N := 371) 4 dX8_feed_22 rfl rfl rfl ?_
    refine ev_iload_n dX8_feed_23 rfl ?_
    refine ev_iadd dX8_feed_24 ?_
    refine ev_bipush (50 : Int32) dX8_feed_25 (by decide) ?_
    refine ev_icmp_le 37 dX8_feed_27 (by decide) (fun c2 => ?_) (fun c2 => ?_)
    · replace h := bv_tt c2 h
      refine ev_iconst (0 : Int32) dX8_feed_37 (by decide) ?_
      refine ev_istore dX8_feed_38 rfl rfl ?_
      exact ev_weak (by exact And.intro rfl (And.intro rfl (And.intro rfl (And.intro rfl (trivial))))) (wb_X8_feed_40  400 _ _ _ _ _ h)
    · replace h := bv_ff c2 h
      refine ev_aload_n dX8_feed_30 rfl ?_
      refine ev_ldc (-1000000004 : Int32) dX8_feed_31 lc_X8_85 ?_
      obtain ⟨z2, hz2, h⟩ := bv_bd h
      refine er_VI [.int _] (fun _ _ q => q) lk_X8_73 dX8_feed_33 rfl rfl rfl rfl rfl (wm_X8_error _ _ _ hz2) ?_
      obtain rfl := Option.some.inj h
      exact ev_iret rfl dX8_feed_36 ⟨rfl, rfl, rfl⟩
  · replace h := bv_tt c1 h
    refine ev_aload_n dX8_feed_10 rfl ?_
    refine ev_ldc (-1000000001 : Int32) dX8_feed_11 lc_X8_72 ?_
    obtain ⟨z3, hz3, h⟩ := bv_bd h
    refine er_VI [.int _] (fun _ _ q => q) lk_X8_73 dX8_feed_13 rfl rfl rfl rfl rfl (wm_X8_error _ _ _ hz3) ?_
    obtain rfl := Option.some.inj h
    exact ev_iret rfl dX8_feed_16 ⟨rfl, rfl, rfl⟩
theorem wm_X8_feed   (l1 : Int64) (l3 : Int32) (mi : bv_Mem) (z : Int32 × bv_Mem) (h : f_X8_feed  l1 l3 mi = some z) : bv_Met yX8_feed MX8_feed bv_X0 1 74 74 [.ref 61, .long l1, .int l3] (bv_mr mi) mi (bv_QI z) :=
  bv_Met.of (pn_X 8 (by decide)) rfl (fun q => absurd q Bool.false_ne_true) (Nat.le_of_ble_eq_true rfl) (we_X8_feed   l1 l3 mi z h)
set_option maxRecDepth 100000 in
set_option maxHeartbeats 4000000 in
theorem we_X8_look    (mi : bv_Mem) (z : Int32) (h : f_X8_look  mi = some z) : bv_Ev MX8_look bv_X0 0 74 74 (bv_QP z mi) 0 [some (.ref 61)] [] 74 (bv_mr mi) mi := by
  unfold f_X8_look at h
  refine ev_aload_n dX8_look_0 rfl ?_
  refine ev_getI lf_X8_128 dX8_look_1 rfl rfl ?_
  refine ev_aload_n dX8_look_4 rfl ?_
  refine ev_getR 62 lf_X8_9 dX8_look_5 rfl rfl rfl ?_
  refine ev_iconst (4 : Int32) dX8_look_8 (by decide) ?_
  refine er_ialdk (N := 371) 4 dX8_look_9 rfl rfl rfl ?_
  refine ev_icmp_ge 28 dX8_look_10 (by decide) (fun c1 => ?_) (fun c1 => ?_)
  · replace h := bv_tt c1 h
    refine ev_iconst (-1 : Int32) dX8_look_28 (by decide) ?_
    obtain rfl := Option.some.inj h
    exact ev_iret rfl dX8_look_29 ⟨rfl, rfl, rfl⟩
  · replace h := bv_ff c1 h
    refine ev_aload_n dX8_look_13 rfl ?_
    refine ev_getR 62 lf_X8_9 dX8_look_14 rfl rfl rfl ?_
    refine ev_bipush (99 : Int32) dX8_look_17 (by decide) ?_
    refine ev_aload_n dX8_look_19 rfl ?_
    refine ev_getI lf_X8_128 dX8_look_20 rfl rfl ?_
    refine ev_iadd dX8_look_23 ?_
    obtain ⟨g1, h⟩ := bv_gd h
    refine ev_iald (N := 371) dX8_look_24 rfl g1 ?_
    refine ev_goto 29 dX8_look_25 (by decide) ?_
    obtain rfl := Option.some.inj h
    exact ev_iret rfl dX8_look_29 ⟨rfl, rfl, rfl⟩
theorem wm_X8_look    (mi : bv_Mem) (z : Int32) (h : f_X8_look  mi = some z) : bv_Met yX8_look MX8_look bv_X0 0 74 74 [.ref 61] (bv_mr mi) mi (bv_QP z mi) :=
  bv_Met.of (pn_X 8 (by decide)) rfl (fun q => absurd q Bool.false_ne_true) (Nat.le_of_ble_eq_true rfl) (we_X8_look   mi z h)
set_option maxRecDepth 100000 in
set_option maxHeartbeats 4000000 in
theorem we_X8_step   (l1 : Int32) (l2 : Int32) (mi : bv_Mem) (z : bv_Mem) (h : f_X8_step  l1 l2 mi = some z) : bv_Ev MX8_step bv_X0 0 74 74 (bv_QV z) 0 [some (.ref 61), some (.int l1), some (.int l2)] [] 74 (bv_mr mi) mi := by
  unfold f_X8_step at h
  refine ev_aload_n dX8_step_0 rfl ?_
  refine ev_getI lf_X8_132 dX8_step_1 rfl rfl ?_
  refine ev_aload_n dX8_step_4 rfl ?_
  refine ev_getR 66 lf_X8_22 dX8_step_5 rfl rfl rfl ?_
  refine ev_alen (kd := 0) (N := 50) (50 : Int32) dX8_step_8 rfl (by decide) rfl ?_
  refine ev_icmp_ge 42 dX8_step_9 (by decide) (fun c1 => ?_) (fun c1 => ?_)
  · replace h := bv_tt c1 h
    obtain rfl := Option.some.inj h
    exact ev_vret rfl dX8_step_42 ⟨rfl, rfl, rfl⟩
  · replace h := bv_ff c1 h
    refine ev_aload_n dX8_step_12 rfl ?_
    refine ev_getR 66 lf_X8_22 dX8_step_13 rfl rfl rfl ?_
    refine ev_aload_n dX8_step_16 rfl ?_
    refine ev_getI lf_X8_132 dX8_step_17 rfl rfl ?_
    refine ev_iload_n dX8_step_20 rfl ?_
    obtain ⟨g1, h⟩ := bv_gd h
    refine er_iast (N := 50) dX8_step_21 rfl g1 ?_
    refine ev_aload_n dX8_step_22 rfl ?_
    refine ev_getR 67 lf_X8_25 dX8_step_23 rfl rfl rfl ?_
    refine ev_aload_n dX8_step_26 rfl ?_
    refine ev_getI lf_X8_132 dX8_step_27 rfl rfl ?_
    refine ev_iload_n dX8_step_30 rfl ?_
    obtain ⟨g2, h⟩ := bv_gd h
    refine er_iast (N := 50) dX8_step_31 rfl g2 ?_
    refine ev_aload_n dX8_step_32 rfl ?_
    refine ev_dup dX8_step_33 rfl ?_
    refine ev_getI lf_X8_132 dX8_step_34 rfl rfl ?_
    refine ev_iconst (1 : Int32) dX8_step_37 (by decide) ?_
    refine ev_iadd dX8_step_38 ?_
    refine er_putI lf_X8_132 dX8_step_39 rfl rfl rfl rfl ?_
    obtain rfl := Option.some.inj h
    exact ev_vret rfl dX8_step_42 ⟨rfl, rfl, rfl⟩
theorem wm_X8_step   (l1 : Int32) (l2 : Int32) (mi : bv_Mem) (z : bv_Mem) (h : f_X8_step  l1 l2 mi = some z) : bv_Met yX8_step MX8_step bv_X0 0 74 74 [.ref 61, .int l1, .int l2] (bv_mr mi) mi (bv_QV z) :=
  bv_Met.of (pn_X 8 (by decide)) rfl (fun q => absurd q Bool.false_ne_true) (Nat.le_of_ble_eq_true rfl) (we_X8_step   l1 l2 mi z h)
set_option maxRecDepth 100000 in
set_option maxHeartbeats 4000000 in
theorem wb_X8_any_4 (r_X8_any : bv_Mem → Option (bv_Mem)) (r_X8_all : bv_Mem → Option (bv_Mem)) (r_X8_compares : bv_Mem → Option (bv_Mem)) (r_X8_sum : bv_Mem → Option (bv_Mem)) (r_X8_times : bv_Mem → Option (bv_Mem)) (r_X8_one : bv_Mem → Option (bv_Mem)) (r_X8_opens : Int32 → bv_Mem → Option (bv_Mem)) (d : Nat) (hb : 2 ≤ d) (hr_X8_any : ∀ (mi : bv_Mem) (z : bv_Mem), r_X8_any mi = some z → bv_Met yX8_any MX8_any bv_X0 d 74 74 [.ref 61] (bv_mr mi) mi (bv_QV z)) (hr_X8_all : ∀ (mi : bv_Mem) (z : bv_Mem), r_X8_all mi = some z → bv_Met yX8_all MX8_all bv_X0 d 74 74 [.ref 61] (bv_mr mi) mi (bv_QV z)) (hr_X8_compares : ∀ (mi : bv_Mem) (z : bv_Mem), r_X8_compares mi = some z → bv_Met yX8_compares MX8_compares bv_X0 d 74 74 [.ref 61] (bv_mr mi) mi (bv_QV z)) (hr_X8_sum : ∀ (mi : bv_Mem) (z : bv_Mem), r_X8_sum mi = some z → bv_Met yX8_sum MX8_sum bv_X0 d 74 74 [.ref 61] (bv_mr mi) mi (bv_QV z)) (hr_X8_times : ∀ (mi : bv_Mem) (z : bv_Mem), r_X8_times mi = some z → bv_Met yX8_times MX8_times bv_X0 d 74 74 [.ref 61] (bv_mr mi) mi (bv_QV z)) (hr_X8_one : ∀ (mi : bv_Mem) (z : bv_Mem), r_X8_one mi = some z → bv_Met yX8_one MX8_one bv_X0 d 74 74 [.ref 61] (bv_mr mi) mi (bv_QV z)) (hr_X8_opens : ∀ (l1 : Int32) (mi : bv_Mem) (z : bv_Mem), r_X8_opens l1 mi = some z → bv_Met yX8_opens MX8_opens bv_X0 d 74 74 [.ref 61, .int l1] (bv_mr mi) mi (bv_QV z)) : ∀ (fu : Nat) (mi : bv_Mem) (z : bv_Mem), b_X8_any_4 r_X8_any r_X8_all r_X8_compares r_X8_sum r_X8_times r_X8_one r_X8_opens fu mi = some z → bv_Ev MX8_any bv_X0 (d + 1) 74 74 (bv_QV z) 4 [some (.ref 61)] [] 74 (bv_mr mi) mi := by
  intro fu
  induction fu with
  | zero =>
    intro mi z h
    rw [b_X8_any_4] at h
    cases h
  | succ fu ih =>
    intro mi z h
    rw [b_X8_any_4] at h
    refine ev_aload_n dX8_any_4 rfl ?_
    refine ev_getI lf_X8_142 dX8_any_5 rfl rfl ?_
    refine ev_if_ne 44 dX8_any_8 (by decide) (fun c1 => ?_) (fun c1 => ?_)
    · replace h := bv_ff c1 h
      obtain rfl := Option.some.inj h
      exact ev_vret rfl dX8_any_44 ⟨rfl, rfl, rfl⟩
    · replace h := bv_tt c1 h
      refine ev_aload_n dX8_any_11 rfl ?_
      obtain ⟨z1, hz1, h⟩ := bv_bd h
      refine er_VP [] (fun _ _ q => q) lk_X8_138 dX8_any_12 rfl rfl rfl (Nat.ble_eq.mpr (by omega)) rfl (wm_X8_look  _ _ hz1) ?_
      refine ev_bipush (124 : Int32) dX8_any_15 (by decide) ?_
      refine ev_icmp_ne 44 dX8_any_17 (by decide) (fun c2 => ?_) (fun c2 => ?_)
      · replace h := bv_ff c2 h
        obtain rfl := Option.some.inj h
        exact ev_vret rfl dX8_any_44 ⟨rfl, rfl, rfl⟩
      · replace h := bv_tt c2 h
        refine ev_aload_n dX8_any_20 rfl ?_
        refine ev_dup dX8_any_21 rfl ?_
        refine ev_getI lf_X8_128 dX8_any_22 rfl rfl ?_
        refine ev_iconst (1 : Int32) dX8_any_25 (by decide) ?_
        refine ev_iadd dX8_any_26 ?_
        refine er_putI lf_X8_128 dX8_any_27 rfl rfl rfl rfl ?_
        refine ev_aload_n dX8_any_30 rfl ?_
        obtain ⟨z2, hz2, h⟩ := bv_bd h
        refine er_VV [] (fun _ _ q => q) lk_X8_178 dX8_any_31 rfl rfl rfl (Nat.ble_eq.mpr (Nat.le_refl _)) rfl (hr_X8_all  _ _ hz2) ?_
        refine ev_aload_n dX8_any_34 rfl ?_
        refine ev_bipush (124 : Int32) dX8_any_35 (by decide) ?_
        refine ev_iconst (0 : Int32) dX8_any_37 (by decide) ?_
        obtain ⟨z3, hz3, h⟩ := bv_bd h
        refine er_VV [.int _, .int _] (fun _ _ q => q) lk_X8_146 dX8_any_38 rfl rfl rfl (Nat.ble_eq.mpr (by omega)) rfl (wm_X8_step _ _ _ _ hz3) ?_
        refine ev_goto 4 dX8_any_41 (by decide) ?_
        exact ev_weak (by exact And.intro rfl (trivial)) (ih _ _ h)
set_option maxRecDepth 100000 in
set_option maxHeartbeats 4000000 in
theorem we_X8_any (r_X8_any : bv_Mem → Option (bv_Mem)) (r_X8_all : bv_Mem → Option (bv_Mem)) (r_X8_compares : bv_Mem → Option (bv_Mem)) (r_X8_sum : bv_Mem → Option (bv_Mem)) (r_X8_times : bv_Mem → Option (bv_Mem)) (r_X8_one : bv_Mem → Option (bv_Mem)) (r_X8_opens : Int32 → bv_Mem → Option (bv_Mem)) (d : Nat) (hb : 2 ≤ d) (hr_X8_any : ∀ (mi : bv_Mem) (z : bv_Mem), r_X8_any mi = some z → bv_Met yX8_any MX8_any bv_X0 d 74 74 [.ref 61] (bv_mr mi) mi (bv_QV z)) (hr_X8_all : ∀ (mi : bv_Mem) (z : bv_Mem), r_X8_all mi = some z → bv_Met yX8_all MX8_all bv_X0 d 74 74 [.ref 61] (bv_mr mi) mi (bv_QV z)) (hr_X8_compares : ∀ (mi : bv_Mem) (z : bv_Mem), r_X8_compares mi = some z → bv_Met yX8_compares MX8_compares bv_X0 d 74 74 [.ref 61] (bv_mr mi) mi (bv_QV z)) (hr_X8_sum : ∀ (mi : bv_Mem) (z : bv_Mem), r_X8_sum mi = some z → bv_Met yX8_sum MX8_sum bv_X0 d 74 74 [.ref 61] (bv_mr mi) mi (bv_QV z)) (hr_X8_times : ∀ (mi : bv_Mem) (z : bv_Mem), r_X8_times mi = some z → bv_Met yX8_times MX8_times bv_X0 d 74 74 [.ref 61] (bv_mr mi) mi (bv_QV z)) (hr_X8_one : ∀ (mi : bv_Mem) (z : bv_Mem), r_X8_one mi = some z → bv_Met yX8_one MX8_one bv_X0 d 74 74 [.ref 61] (bv_mr mi) mi (bv_QV z)) (hr_X8_opens : ∀ (l1 : Int32) (mi : bv_Mem) (z : bv_Mem), r_X8_opens l1 mi = some z → bv_Met yX8_opens MX8_opens bv_X0 d 74 74 [.ref 61, .int l1] (bv_mr mi) mi (bv_QV z))  (mi : bv_Mem) (z : bv_Mem) (h : F_X8_any r_X8_any r_X8_all r_X8_compares r_X8_sum r_X8_times r_X8_one r_X8_opens mi = some z) : bv_Ev MX8_any bv_X0 (d + 1) 74 74 (bv_QV z) 0 [some (.ref 61)] [] 74 (bv_mr mi) mi := by
  unfold F_X8_any at h
  refine ev_aload_n dX8_any_0 rfl ?_
  obtain ⟨z1, hz1, h⟩ := bv_bd h
  refine er_VV [] (fun _ _ q => q) lk_X8_178 dX8_any_1 rfl rfl rfl (Nat.ble_eq.mpr (Nat.le_refl _)) rfl (hr_X8_all  _ _ hz1) ?_
  exact ev_weak (by exact And.intro rfl (trivial)) (wb_X8_any_4 r_X8_any r_X8_all r_X8_compares r_X8_sum r_X8_times r_X8_one r_X8_opens d hb hr_X8_any hr_X8_all hr_X8_compares hr_X8_sum hr_X8_times hr_X8_one hr_X8_opens 400 _ _ h)
theorem wm_X8_any (r_X8_any : bv_Mem → Option (bv_Mem)) (r_X8_all : bv_Mem → Option (bv_Mem)) (r_X8_compares : bv_Mem → Option (bv_Mem)) (r_X8_sum : bv_Mem → Option (bv_Mem)) (r_X8_times : bv_Mem → Option (bv_Mem)) (r_X8_one : bv_Mem → Option (bv_Mem)) (r_X8_opens : Int32 → bv_Mem → Option (bv_Mem)) (d : Nat) (hb : 2 ≤ d) (hr_X8_any : ∀ (mi : bv_Mem) (z : bv_Mem), r_X8_any mi = some z → bv_Met yX8_any MX8_any bv_X0 d 74 74 [.ref 61] (bv_mr mi) mi (bv_QV z)) (hr_X8_all : ∀ (mi : bv_Mem) (z : bv_Mem), r_X8_all mi = some z → bv_Met yX8_all MX8_all bv_X0 d 74 74 [.ref 61] (bv_mr mi) mi (bv_QV z)) (hr_X8_compares : ∀ (mi : bv_Mem) (z : bv_Mem), r_X8_compares mi = some z → bv_Met yX8_compares MX8_compares bv_X0 d 74 74 [.ref 61] (bv_mr mi) mi (bv_QV z)) (hr_X8_sum : ∀ (mi : bv_Mem) (z : bv_Mem), r_X8_sum mi = some z → bv_Met yX8_sum MX8_sum bv_X0 d 74 74 [.ref 61] (bv_mr mi) mi (bv_QV z)) (hr_X8_times : ∀ (mi : bv_Mem) (z : bv_Mem), r_X8_times mi = some z → bv_Met yX8_times MX8_times bv_X0 d 74 74 [.ref 61] (bv_mr mi) mi (bv_QV z)) (hr_X8_one : ∀ (mi : bv_Mem) (z : bv_Mem), r_X8_one mi = some z → bv_Met yX8_one MX8_one bv_X0 d 74 74 [.ref 61] (bv_mr mi) mi (bv_QV z)) (hr_X8_opens : ∀ (l1 : Int32) (mi : bv_Mem) (z : bv_Mem), r_X8_opens l1 mi = some z → bv_Met yX8_opens MX8_opens bv_X0 d 74 74 [.ref 61, .int l1] (bv_mr mi) mi (bv_QV z))  (mi : bv_Mem) (z : bv_Mem) (h : F_X8_any r_X8_any r_X8_all r_X8_compares r_X8_sum r_X8_times r_X8_one r_X8_opens mi = some z) : bv_Met yX8_any MX8_any bv_X0 (d + 1) 74 74 [.ref 61] (bv_mr mi) mi (bv_QV z) :=
  bv_Met.of (pn_X 8 (by decide)) rfl (fun q => absurd q Bool.false_ne_true) (Nat.le_of_ble_eq_true rfl) (we_X8_any r_X8_any r_X8_all r_X8_compares r_X8_sum r_X8_times r_X8_one r_X8_opens d hb hr_X8_any hr_X8_all hr_X8_compares hr_X8_sum hr_X8_times hr_X8_one hr_X8_opens mi z h)
set_option maxRecDepth 100000 in
set_option maxHeartbeats 4000000 in
theorem wb_X8_all_4 (r_X8_any : bv_Mem → Option (bv_Mem)) (r_X8_all : bv_Mem → Option (bv_Mem)) (r_X8_compares : bv_Mem → Option (bv_Mem)) (r_X8_sum : bv_Mem → Option (bv_Mem)) (r_X8_times : bv_Mem → Option (bv_Mem)) (r_X8_one : bv_Mem → Option (bv_Mem)) (r_X8_opens : Int32 → bv_Mem → Option (bv_Mem)) (d : Nat) (hb : 2 ≤ d) (hr_X8_any : ∀ (mi : bv_Mem) (z : bv_Mem), r_X8_any mi = some z → bv_Met yX8_any MX8_any bv_X0 d 74 74 [.ref 61] (bv_mr mi) mi (bv_QV z)) (hr_X8_all : ∀ (mi : bv_Mem) (z : bv_Mem), r_X8_all mi = some z → bv_Met yX8_all MX8_all bv_X0 d 74 74 [.ref 61] (bv_mr mi) mi (bv_QV z)) (hr_X8_compares : ∀ (mi : bv_Mem) (z : bv_Mem), r_X8_compares mi = some z → bv_Met yX8_compares MX8_compares bv_X0 d 74 74 [.ref 61] (bv_mr mi) mi (bv_QV z)) (hr_X8_sum : ∀ (mi : bv_Mem) (z : bv_Mem), r_X8_sum mi = some z → bv_Met yX8_sum MX8_sum bv_X0 d 74 74 [.ref 61] (bv_mr mi) mi (bv_QV z)) (hr_X8_times : ∀ (mi : bv_Mem) (z : bv_Mem), r_X8_times mi = some z → bv_Met yX8_times MX8_times bv_X0 d 74 74 [.ref 61] (bv_mr mi) mi (bv_QV z)) (hr_X8_one : ∀ (mi : bv_Mem) (z : bv_Mem), r_X8_one mi = some z → bv_Met yX8_one MX8_one bv_X0 d 74 74 [.ref 61] (bv_mr mi) mi (bv_QV z)) (hr_X8_opens : ∀ (l1 : Int32) (mi : bv_Mem) (z : bv_Mem), r_X8_opens l1 mi = some z → bv_Met yX8_opens MX8_opens bv_X0 d 74 74 [.ref 61, .int l1] (bv_mr mi) mi (bv_QV z)) : ∀ (fu : Nat) (mi : bv_Mem) (z : bv_Mem), b_X8_all_4 r_X8_any r_X8_all r_X8_compares r_X8_sum r_X8_times r_X8_one r_X8_opens fu mi = some z → bv_Ev MX8_all bv_X0 (d + 1) 74 74 (bv_QV z) 4 [some (.ref 61)] [] 74 (bv_mr mi) mi := by
  intro fu
  induction fu with
  | zero =>
    intro mi z h
    rw [b_X8_all_4] at h
    cases h
  | succ fu ih =>
    intro mi z h
    rw [b_X8_all_4] at h
    refine ev_aload_n dX8_all_4 rfl ?_
    refine ev_getI lf_X8_142 dX8_all_5 rfl rfl ?_
    refine ev_if_ne 44 dX8_all_8 (by decide) (fun c1 => ?_) (fun c1 => ?_)
    · replace h := bv_ff c1 h
      obtain rfl := Option.some.inj h
      exact ev_vret rfl dX8_all_44 ⟨rfl, rfl, rfl⟩
    · replace h := bv_tt c1 h
      refine ev_aload_n dX8_all_11 rfl ?_
      obtain ⟨z1, hz1, h⟩ := bv_bd h
      refine er_VP [] (fun _ _ q => q) lk_X8_138 dX8_all_12 rfl rfl rfl (Nat.ble_eq.mpr (by omega)) rfl (wm_X8_look  _ _ hz1) ?_
      refine ev_bipush (38 : Int32) dX8_all_15 (by decide) ?_
      refine ev_icmp_ne 44 dX8_all_17 (by decide) (fun c2 => ?_) (fun c2 => ?_)
      · replace h := bv_ff c2 h
        obtain rfl := Option.some.inj h
        exact ev_vret rfl dX8_all_44 ⟨rfl, rfl, rfl⟩
      · replace h := bv_tt c2 h
        refine ev_aload_n dX8_all_20 rfl ?_
        refine ev_dup dX8_all_21 rfl ?_
        refine ev_getI lf_X8_128 dX8_all_22 rfl rfl ?_
        refine ev_iconst (1 : Int32) dX8_all_25 (by decide) ?_
        refine ev_iadd dX8_all_26 ?_
        refine er_putI lf_X8_128 dX8_all_27 rfl rfl rfl rfl ?_
        refine ev_aload_n dX8_all_30 rfl ?_
        obtain ⟨z2, hz2, h⟩ := bv_bd h
        refine er_VV [] (fun _ _ q => q) lk_X8_175 dX8_all_31 rfl rfl rfl (Nat.ble_eq.mpr (Nat.le_refl _)) rfl (hr_X8_compares  _ _ hz2) ?_
        refine ev_aload_n dX8_all_34 rfl ?_
        refine ev_bipush (38 : Int32) dX8_all_35 (by decide) ?_
        refine ev_iconst (0 : Int32) dX8_all_37 (by decide) ?_
        obtain ⟨z3, hz3, h⟩ := bv_bd h
        refine er_VV [.int _, .int _] (fun _ _ q => q) lk_X8_146 dX8_all_38 rfl rfl rfl (Nat.ble_eq.mpr (by omega)) rfl (wm_X8_step _ _ _ _ hz3) ?_
        refine ev_goto 4 dX8_all_41 (by decide) ?_
        exact ev_weak (by exact And.intro rfl (trivial)) (ih _ _ h)
set_option maxRecDepth 100000 in
set_option maxHeartbeats 4000000 in
theorem we_X8_all (r_X8_any : bv_Mem → Option (bv_Mem)) (r_X8_all : bv_Mem → Option (bv_Mem)) (r_X8_compares : bv_Mem → Option (bv_Mem)) (r_X8_sum : bv_Mem → Option (bv_Mem)) (r_X8_times : bv_Mem → Option (bv_Mem)) (r_X8_one : bv_Mem → Option (bv_Mem)) (r_X8_opens : Int32 → bv_Mem → Option (bv_Mem)) (d : Nat) (hb : 2 ≤ d) (hr_X8_any : ∀ (mi : bv_Mem) (z : bv_Mem), r_X8_any mi = some z → bv_Met yX8_any MX8_any bv_X0 d 74 74 [.ref 61] (bv_mr mi) mi (bv_QV z)) (hr_X8_all : ∀ (mi : bv_Mem) (z : bv_Mem), r_X8_all mi = some z → bv_Met yX8_all MX8_all bv_X0 d 74 74 [.ref 61] (bv_mr mi) mi (bv_QV z)) (hr_X8_compares : ∀ (mi : bv_Mem) (z : bv_Mem), r_X8_compares mi = some z → bv_Met yX8_compares MX8_compares bv_X0 d 74 74 [.ref 61] (bv_mr mi) mi (bv_QV z)) (hr_X8_sum : ∀ (mi : bv_Mem) (z : bv_Mem), r_X8_sum mi = some z → bv_Met yX8_sum MX8_sum bv_X0 d 74 74 [.ref 61] (bv_mr mi) mi (bv_QV z)) (hr_X8_times : ∀ (mi : bv_Mem) (z : bv_Mem), r_X8_times mi = some z → bv_Met yX8_times MX8_times bv_X0 d 74 74 [.ref 61] (bv_mr mi) mi (bv_QV z)) (hr_X8_one : ∀ (mi : bv_Mem) (z : bv_Mem), r_X8_one mi = some z → bv_Met yX8_one MX8_one bv_X0 d 74 74 [.ref 61] (bv_mr mi) mi (bv_QV z)) (hr_X8_opens : ∀ (l1 : Int32) (mi : bv_Mem) (z : bv_Mem), r_X8_opens l1 mi = some z → bv_Met yX8_opens MX8_opens bv_X0 d 74 74 [.ref 61, .int l1] (bv_mr mi) mi (bv_QV z))  (mi : bv_Mem) (z : bv_Mem) (h : F_X8_all r_X8_any r_X8_all r_X8_compares r_X8_sum r_X8_times r_X8_one r_X8_opens mi = some z) : bv_Ev MX8_all bv_X0 (d + 1) 74 74 (bv_QV z) 0 [some (.ref 61)] [] 74 (bv_mr mi) mi := by
  unfold F_X8_all at h
  refine ev_aload_n dX8_all_0 rfl ?_
  obtain ⟨z1, hz1, h⟩ := bv_bd h
  refine er_VV [] (fun _ _ q => q) lk_X8_175 dX8_all_1 rfl rfl rfl (Nat.ble_eq.mpr (Nat.le_refl _)) rfl (hr_X8_compares  _ _ hz1) ?_
  exact ev_weak (by exact And.intro rfl (trivial)) (wb_X8_all_4 r_X8_any r_X8_all r_X8_compares r_X8_sum r_X8_times r_X8_one r_X8_opens d hb hr_X8_any hr_X8_all hr_X8_compares hr_X8_sum hr_X8_times hr_X8_one hr_X8_opens 400 _ _ h)
theorem wm_X8_all (r_X8_any : bv_Mem → Option (bv_Mem)) (r_X8_all : bv_Mem → Option (bv_Mem)) (r_X8_compares : bv_Mem → Option (bv_Mem)) (r_X8_sum : bv_Mem → Option (bv_Mem)) (r_X8_times : bv_Mem → Option (bv_Mem)) (r_X8_one : bv_Mem → Option (bv_Mem)) (r_X8_opens : Int32 → bv_Mem → Option (bv_Mem)) (d : Nat) (hb : 2 ≤ d) (hr_X8_any : ∀ (mi : bv_Mem) (z : bv_Mem), r_X8_any mi = some z → bv_Met yX8_any MX8_any bv_X0 d 74 74 [.ref 61] (bv_mr mi) mi (bv_QV z)) (hr_X8_all : ∀ (mi : bv_Mem) (z : bv_Mem), r_X8_all mi = some z → bv_Met yX8_all MX8_all bv_X0 d 74 74 [.ref 61] (bv_mr mi) mi (bv_QV z)) (hr_X8_compares : ∀ (mi : bv_Mem) (z : bv_Mem), r_X8_compares mi = some z → bv_Met yX8_compares MX8_compares bv_X0 d 74 74 [.ref 61] (bv_mr mi) mi (bv_QV z)) (hr_X8_sum : ∀ (mi : bv_Mem) (z : bv_Mem), r_X8_sum mi = some z → bv_Met yX8_sum MX8_sum bv_X0 d 74 74 [.ref 61] (bv_mr mi) mi (bv_QV z)) (hr_X8_times : ∀ (mi : bv_Mem) (z : bv_Mem), r_X8_times mi = some z → bv_Met yX8_times MX8_times bv_X0 d 74 74 [.ref 61] (bv_mr mi) mi (bv_QV z)) (hr_X8_one : ∀ (mi : bv_Mem) (z : bv_Mem), r_X8_one mi = some z → bv_Met yX8_one MX8_one bv_X0 d 74 74 [.ref 61] (bv_mr mi) mi (bv_QV z)) (hr_X8_opens : ∀ (l1 : Int32) (mi : bv_Mem) (z : bv_Mem), r_X8_opens l1 mi = some z → bv_Met yX8_opens MX8_opens bv_X0 d 74 74 [.ref 61, .int l1] (bv_mr mi) mi (bv_QV z))  (mi : bv_Mem) (z : bv_Mem) (h : F_X8_all r_X8_any r_X8_all r_X8_compares r_X8_sum r_X8_times r_X8_one r_X8_opens mi = some z) : bv_Met yX8_all MX8_all bv_X0 (d + 1) 74 74 [.ref 61] (bv_mr mi) mi (bv_QV z) :=
  bv_Met.of (pn_X 8 (by decide)) rfl (fun q => absurd q Bool.false_ne_true) (Nat.le_of_ble_eq_true rfl) (we_X8_all r_X8_any r_X8_all r_X8_compares r_X8_sum r_X8_times r_X8_one r_X8_opens d hb hr_X8_any hr_X8_all hr_X8_compares hr_X8_sum hr_X8_times hr_X8_one hr_X8_opens mi z h)
set_option maxRecDepth 100000 in
set_option maxHeartbeats 4000000 in
theorem wb_X8_compares_34 (r_X8_any : bv_Mem → Option (bv_Mem)) (r_X8_all : bv_Mem → Option (bv_Mem)) (r_X8_compares : bv_Mem → Option (bv_Mem)) (r_X8_sum : bv_Mem → Option (bv_Mem)) (r_X8_times : bv_Mem → Option (bv_Mem)) (r_X8_one : bv_Mem → Option (bv_Mem)) (r_X8_opens : Int32 → bv_Mem → Option (bv_Mem)) (d : Nat) (hb : 2 ≤ d) (hr_X8_any : ∀ (mi : bv_Mem) (z : bv_Mem), r_X8_any mi = some z → bv_Met yX8_any MX8_any bv_X0 d 74 74 [.ref 61] (bv_mr mi) mi (bv_QV z)) (hr_X8_all : ∀ (mi : bv_Mem) (z : bv_Mem), r_X8_all mi = some z → bv_Met yX8_all MX8_all bv_X0 d 74 74 [.ref 61] (bv_mr mi) mi (bv_QV z)) (hr_X8_compares : ∀ (mi : bv_Mem) (z : bv_Mem), r_X8_compares mi = some z → bv_Met yX8_compares MX8_compares bv_X0 d 74 74 [.ref 61] (bv_mr mi) mi (bv_QV z)) (hr_X8_sum : ∀ (mi : bv_Mem) (z : bv_Mem), r_X8_sum mi = some z → bv_Met yX8_sum MX8_sum bv_X0 d 74 74 [.ref 61] (bv_mr mi) mi (bv_QV z)) (hr_X8_times : ∀ (mi : bv_Mem) (z : bv_Mem), r_X8_times mi = some z → bv_Met yX8_times MX8_times bv_X0 d 74 74 [.ref 61] (bv_mr mi) mi (bv_QV z)) (hr_X8_one : ∀ (mi : bv_Mem) (z : bv_Mem), r_X8_one mi = some z → bv_Met yX8_one MX8_one bv_X0 d 74 74 [.ref 61] (bv_mr mi) mi (bv_QV z)) (hr_X8_opens : ∀ (l1 : Int32) (mi : bv_Mem) (z : bv_Mem), r_X8_opens l1 mi = some z → bv_Met yX8_opens MX8_opens bv_X0 d 74 74 [.ref 61, .int l1] (bv_mr mi) mi (bv_QV z)) (l1 : Int32) (mi : bv_Mem) (z : bv_Mem) (h : b_X8_compares_34 r_X8_any r_X8_all r_X8_compares r_X8_sum r_X8_times r_X8_one r_X8_opens l1 mi = some z) : bv_Ev MX8_compares bv_X0 (d + 1) 74 74 (bv_QV z) 34 [some (.ref 61), some (.int l1)] [] 74 (bv_mr mi) mi := by
  unfold b_X8_compares_34 at h
  refine ev_aload_n dX8_compares_34 rfl ?_
  refine ev_dup dX8_compares_35 rfl ?_
  refine ev_getI lf_X8_128 dX8_compares_36 rfl rfl ?_
  refine ev_iconst (1 : Int32) dX8_compares_39 (by decide) ?_
  refine ev_iadd dX8_compares_40 ?_
  refine er_putI lf_X8_128 dX8_compares_41 rfl rfl rfl rfl ?_
  refine ev_aload_n dX8_compares_44 rfl ?_
  obtain ⟨z1, hz1, h⟩ := bv_bd h
  refine er_VV [] (fun _ _ q => q) lk_X8_172 dX8_compares_45 rfl rfl rfl (Nat.ble_eq.mpr (Nat.le_refl _)) rfl (hr_X8_sum  _ _ hz1) ?_
  refine ev_aload_n dX8_compares_48 rfl ?_
  refine ev_iload_n dX8_compares_49 rfl ?_
  refine ev_iconst (0 : Int32) dX8_compares_50 (by decide) ?_
  obtain ⟨z2, hz2, h⟩ := bv_bd h
  refine er_VV [.int _, .int _] (fun _ _ q => q) lk_X8_146 dX8_compares_51 rfl rfl rfl (Nat.ble_eq.mpr (by omega)) rfl (wm_X8_step _ _ _ _ hz2) ?_
  obtain rfl := Option.some.inj h
  exact ev_vret rfl dX8_compares_54 ⟨rfl, rfl, rfl⟩
set_option maxRecDepth 100000 in
set_option maxHeartbeats 4000000 in
theorem we_X8_compares (r_X8_any : bv_Mem → Option (bv_Mem)) (r_X8_all : bv_Mem → Option (bv_Mem)) (r_X8_compares : bv_Mem → Option (bv_Mem)) (r_X8_sum : bv_Mem → Option (bv_Mem)) (r_X8_times : bv_Mem → Option (bv_Mem)) (r_X8_one : bv_Mem → Option (bv_Mem)) (r_X8_opens : Int32 → bv_Mem → Option (bv_Mem)) (d : Nat) (hb : 2 ≤ d) (hr_X8_any : ∀ (mi : bv_Mem) (z : bv_Mem), r_X8_any mi = some z → bv_Met yX8_any MX8_any bv_X0 d 74 74 [.ref 61] (bv_mr mi) mi (bv_QV z)) (hr_X8_all : ∀ (mi : bv_Mem) (z : bv_Mem), r_X8_all mi = some z → bv_Met yX8_all MX8_all bv_X0 d 74 74 [.ref 61] (bv_mr mi) mi (bv_QV z)) (hr_X8_compares : ∀ (mi : bv_Mem) (z : bv_Mem), r_X8_compares mi = some z → bv_Met yX8_compares MX8_compares bv_X0 d 74 74 [.ref 61] (bv_mr mi) mi (bv_QV z)) (hr_X8_sum : ∀ (mi : bv_Mem) (z : bv_Mem), r_X8_sum mi = some z → bv_Met yX8_sum MX8_sum bv_X0 d 74 74 [.ref 61] (bv_mr mi) mi (bv_QV z)) (hr_X8_times : ∀ (mi : bv_Mem) (z : bv_Mem), r_X8_times mi = some z → bv_Met yX8_times MX8_times bv_X0 d 74 74 [.ref 61] (bv_mr mi) mi (bv_QV z)) (hr_X8_one : ∀ (mi : bv_Mem) (z : bv_Mem), r_X8_one mi = some z → bv_Met yX8_one MX8_one bv_X0 d 74 74 [.ref 61] (bv_mr mi) mi (bv_QV z)) (hr_X8_opens : ∀ (l1 : Int32) (mi : bv_Mem) (z : bv_Mem), r_X8_opens l1 mi = some z → bv_Met yX8_opens MX8_opens bv_X0 d 74 74 [.ref 61, .int l1] (bv_mr mi) mi (bv_QV z))  (mi : bv_Mem) (z : bv_Mem) (h : F_X8_compares r_X8_any r_X8_all r_X8_compares r_X8_sum r_X8_times r_X8_one r_X8_opens mi = some z) : bv_Ev MX8_compares bv_X0 (d + 1) 74 74 (bv_QV z) 0 [some (.ref 61), none] [] 74 (bv_mr mi) mi := by
  unfold F_X8_compares at h
  refine ev_aload_n dX8_compares_0 rfl ?_
  obtain ⟨z1, hz1, h⟩ := bv_bd h
  refine er_VV [] (fun _ _ q => q) lk_X8_172 dX8_compares_1 rfl rfl rfl (Nat.ble_eq.mpr (Nat.le_refl _)) rfl (hr_X8_sum  _ _ hz1) ?_
  refine ev_aload_n dX8_compares_4 rfl ?_
  obtain ⟨z2, hz2, h⟩ := bv_bd h
  refine er_VP [] (fun _ _ q => q) lk_X8_138 dX8_compares_5 rfl rfl rfl (Nat.ble_eq.mpr (by omega)) rfl (wm_X8_look  _ _ hz2) ?_
  refine ev_istore_n dX8_compares_8 rfl rfl ?_
  refine ev_aload_n dX8_compares_9 rfl ?_
  refine ev_getI lf_X8_142 dX8_compares_10 rfl rfl ?_
  refine ev_if_ne 54 dX8_compares_13 (by decide) (fun c1 => ?_) (fun c1 => ?_)
  · replace h := bv_ff c1 h
    obtain rfl := Option.some.inj h
    exact ev_vret rfl dX8_compares_54 ⟨rfl, rfl, rfl⟩
  · replace h := bv_tt c1 h
    refine ev_iload_n dX8_compares_16 rfl ?_
    refine ev_bipush (60 : Int32) dX8_compares_17 (by decide) ?_
    refine ev_icmp_eq 34 dX8_compares_19 (by decide) (fun c2 => ?_) (fun c2 => ?_)
    · replace h := bv_tt c2 h
      exact ev_weak (by exact And.intro rfl (And.intro rfl (trivial))) (wb_X8_compares_34 r_X8_any r_X8_all r_X8_compares r_X8_sum r_X8_times r_X8_one r_X8_opens d hb hr_X8_any hr_X8_all hr_X8_compares hr_X8_sum hr_X8_times hr_X8_one hr_X8_opens _ _ _ h)
    · replace h := bv_ff c2 h
      refine ev_iload_n dX8_compares_22 rfl ?_
      refine ev_bipush (61 : Int32) dX8_compares_23 (by decide) ?_
      refine ev_icmp_eq 34 dX8_compares_25 (by decide) (fun c3 => ?_) (fun c3 => ?_)
      · replace h := bv_tt c3 h
        exact ev_weak (by exact And.intro rfl (And.intro rfl (trivial))) (wb_X8_compares_34 r_X8_any r_X8_all r_X8_compares r_X8_sum r_X8_times r_X8_one r_X8_opens d hb hr_X8_any hr_X8_all hr_X8_compares hr_X8_sum hr_X8_times hr_X8_one hr_X8_opens _ _ _ h)
      · replace h := bv_ff c3 h
        refine ev_iload_n dX8_compares_28 rfl ?_
        refine ev_bipush (62 : Int32) dX8_compares_29 (by decide) ?_
        refine ev_icmp_ne 54 dX8_compares_31 (by decide) (fun c4 => ?_) (fun c4 => ?_)
        · replace h := bv_ff c4 h
          obtain rfl := Option.some.inj h
          exact ev_vret rfl dX8_compares_54 ⟨rfl, rfl, rfl⟩
        · replace h := bv_tt c4 h
          exact ev_weak (by exact And.intro rfl (And.intro rfl (trivial))) (wb_X8_compares_34 r_X8_any r_X8_all r_X8_compares r_X8_sum r_X8_times r_X8_one r_X8_opens d hb hr_X8_any hr_X8_all hr_X8_compares hr_X8_sum hr_X8_times hr_X8_one hr_X8_opens _ _ _ h)
theorem wm_X8_compares (r_X8_any : bv_Mem → Option (bv_Mem)) (r_X8_all : bv_Mem → Option (bv_Mem)) (r_X8_compares : bv_Mem → Option (bv_Mem)) (r_X8_sum : bv_Mem → Option (bv_Mem)) (r_X8_times : bv_Mem → Option (bv_Mem)) (r_X8_one : bv_Mem → Option (bv_Mem)) (r_X8_opens : Int32 → bv_Mem → Option (bv_Mem)) (d : Nat) (hb : 2 ≤ d) (hr_X8_any : ∀ (mi : bv_Mem) (z : bv_Mem), r_X8_any mi = some z → bv_Met yX8_any MX8_any bv_X0 d 74 74 [.ref 61] (bv_mr mi) mi (bv_QV z)) (hr_X8_all : ∀ (mi : bv_Mem) (z : bv_Mem), r_X8_all mi = some z → bv_Met yX8_all MX8_all bv_X0 d 74 74 [.ref 61] (bv_mr mi) mi (bv_QV z)) (hr_X8_compares : ∀ (mi : bv_Mem) (z : bv_Mem), r_X8_compares mi = some z → bv_Met yX8_compares MX8_compares bv_X0 d 74 74 [.ref 61] (bv_mr mi) mi (bv_QV z)) (hr_X8_sum : ∀ (mi : bv_Mem) (z : bv_Mem), r_X8_sum mi = some z → bv_Met yX8_sum MX8_sum bv_X0 d 74 74 [.ref 61] (bv_mr mi) mi (bv_QV z)) (hr_X8_times : ∀ (mi : bv_Mem) (z : bv_Mem), r_X8_times mi = some z → bv_Met yX8_times MX8_times bv_X0 d 74 74 [.ref 61] (bv_mr mi) mi (bv_QV z)) (hr_X8_one : ∀ (mi : bv_Mem) (z : bv_Mem), r_X8_one mi = some z → bv_Met yX8_one MX8_one bv_X0 d 74 74 [.ref 61] (bv_mr mi) mi (bv_QV z)) (hr_X8_opens : ∀ (l1 : Int32) (mi : bv_Mem) (z : bv_Mem), r_X8_opens l1 mi = some z → bv_Met yX8_opens MX8_opens bv_X0 d 74 74 [.ref 61, .int l1] (bv_mr mi) mi (bv_QV z))  (mi : bv_Mem) (z : bv_Mem) (h : F_X8_compares r_X8_any r_X8_all r_X8_compares r_X8_sum r_X8_times r_X8_one r_X8_opens mi = some z) : bv_Met yX8_compares MX8_compares bv_X0 (d + 1) 74 74 [.ref 61] (bv_mr mi) mi (bv_QV z) :=
  bv_Met.of (pn_X 8 (by decide)) rfl (fun q => absurd q Bool.false_ne_true) (Nat.le_of_ble_eq_true rfl) (we_X8_compares r_X8_any r_X8_all r_X8_compares r_X8_sum r_X8_times r_X8_one r_X8_opens d hb hr_X8_any hr_X8_all hr_X8_compares hr_X8_sum hr_X8_times hr_X8_one hr_X8_opens mi z h)
set_option maxRecDepth 100000 in
set_option maxHeartbeats 4000000 in
theorem wb_X8_sum_29 (r_X8_any : bv_Mem → Option (bv_Mem)) (r_X8_all : bv_Mem → Option (bv_Mem)) (r_X8_compares : bv_Mem → Option (bv_Mem)) (r_X8_sum : bv_Mem → Option (bv_Mem)) (r_X8_times : bv_Mem → Option (bv_Mem)) (r_X8_one : bv_Mem → Option (bv_Mem)) (r_X8_opens : Int32 → bv_Mem → Option (bv_Mem)) (d : Nat) (hb : 2 ≤ d) (hr_X8_any : ∀ (mi : bv_Mem) (z : bv_Mem), r_X8_any mi = some z → bv_Met yX8_any MX8_any bv_X0 d 74 74 [.ref 61] (bv_mr mi) mi (bv_QV z)) (hr_X8_all : ∀ (mi : bv_Mem) (z : bv_Mem), r_X8_all mi = some z → bv_Met yX8_all MX8_all bv_X0 d 74 74 [.ref 61] (bv_mr mi) mi (bv_QV z)) (hr_X8_compares : ∀ (mi : bv_Mem) (z : bv_Mem), r_X8_compares mi = some z → bv_Met yX8_compares MX8_compares bv_X0 d 74 74 [.ref 61] (bv_mr mi) mi (bv_QV z)) (hr_X8_sum : ∀ (mi : bv_Mem) (z : bv_Mem), r_X8_sum mi = some z → bv_Met yX8_sum MX8_sum bv_X0 d 74 74 [.ref 61] (bv_mr mi) mi (bv_QV z)) (hr_X8_times : ∀ (mi : bv_Mem) (z : bv_Mem), r_X8_times mi = some z → bv_Met yX8_times MX8_times bv_X0 d 74 74 [.ref 61] (bv_mr mi) mi (bv_QV z)) (hr_X8_one : ∀ (mi : bv_Mem) (z : bv_Mem), r_X8_one mi = some z → bv_Met yX8_one MX8_one bv_X0 d 74 74 [.ref 61] (bv_mr mi) mi (bv_QV z)) (hr_X8_opens : ∀ (l1 : Int32) (mi : bv_Mem) (z : bv_Mem), r_X8_opens l1 mi = some z → bv_Met yX8_opens MX8_opens bv_X0 d 74 74 [.ref 61, .int l1] (bv_mr mi) mi (bv_QV z)) (k_4 : bv_Mem → Option (bv_Mem)) (hk_4 : ∀ (mi : bv_Mem) (z : bv_Mem), k_4 mi = some z → bv_Ev MX8_sum bv_X0 (d + 1) 74 74 (bv_QV z) 4 [some (.ref 61), none] [] 74 (bv_mr mi) mi) (mi : bv_Mem) (z : bv_Mem) (h : b_X8_sum_29 r_X8_any r_X8_all r_X8_compares r_X8_sum r_X8_times r_X8_one r_X8_opens k_4 mi = some z) : bv_Ev MX8_sum bv_X0 (d + 1) 74 74 (bv_QV z) 29 [some (.ref 61), none] [] 74 (bv_mr mi) mi := by
  unfold b_X8_sum_29 at h
  refine ev_aload_n dX8_sum_29 rfl ?_
  obtain ⟨z1, hz1, h⟩ := bv_bd h
  refine er_VP [] (fun _ _ q => q) lk_X8_138 dX8_sum_30 rfl rfl rfl (Nat.ble_eq.mpr (by omega)) rfl (wm_X8_look  _ _ hz1) ?_
  refine ev_istore_n dX8_sum_33 rfl rfl ?_
  refine ev_aload_n dX8_sum_34 rfl ?_
  refine ev_dup dX8_sum_35 rfl ?_
  refine ev_getI lf_X8_128 dX8_sum_36 rfl rfl ?_
  refine ev_iconst (1 : Int32) dX8_sum_39 (by decide) ?_
  refine ev_iadd dX8_sum_40 ?_
  refine er_putI lf_X8_128 dX8_sum_41 rfl rfl rfl rfl ?_
  refine ev_aload_n dX8_sum_44 rfl ?_
  obtain ⟨z2, hz2, h⟩ := bv_bd h
  refine er_VV [] (fun _ _ q => q) lk_X8_169 dX8_sum_45 rfl rfl rfl (Nat.ble_eq.mpr (Nat.le_refl _)) rfl (hr_X8_times  _ _ hz2) ?_
  refine ev_aload_n dX8_sum_48 rfl ?_
  refine ev_iload_n dX8_sum_49 rfl ?_
  refine ev_iconst (0 : Int32) dX8_sum_50 (by decide) ?_
  obtain ⟨z3, hz3, h⟩ := bv_bd h
  refine er_VV [.int _, .int _] (fun _ _ q => q) lk_X8_146 dX8_sum_51 rfl rfl rfl (Nat.ble_eq.mpr (by omega)) rfl (wm_X8_step _ _ _ _ hz3) ?_
  refine ev_goto 4 dX8_sum_54 (by decide) ?_
  exact ev_weak (by exact And.intro rfl (trivial)) (hk_4 _ _ h)
set_option maxRecDepth 100000 in
set_option maxHeartbeats 4000000 in
theorem wb_X8_sum_4 (r_X8_any : bv_Mem → Option (bv_Mem)) (r_X8_all : bv_Mem → Option (bv_Mem)) (r_X8_compares : bv_Mem → Option (bv_Mem)) (r_X8_sum : bv_Mem → Option (bv_Mem)) (r_X8_times : bv_Mem → Option (bv_Mem)) (r_X8_one : bv_Mem → Option (bv_Mem)) (r_X8_opens : Int32 → bv_Mem → Option (bv_Mem)) (d : Nat) (hb : 2 ≤ d) (hr_X8_any : ∀ (mi : bv_Mem) (z : bv_Mem), r_X8_any mi = some z → bv_Met yX8_any MX8_any bv_X0 d 74 74 [.ref 61] (bv_mr mi) mi (bv_QV z)) (hr_X8_all : ∀ (mi : bv_Mem) (z : bv_Mem), r_X8_all mi = some z → bv_Met yX8_all MX8_all bv_X0 d 74 74 [.ref 61] (bv_mr mi) mi (bv_QV z)) (hr_X8_compares : ∀ (mi : bv_Mem) (z : bv_Mem), r_X8_compares mi = some z → bv_Met yX8_compares MX8_compares bv_X0 d 74 74 [.ref 61] (bv_mr mi) mi (bv_QV z)) (hr_X8_sum : ∀ (mi : bv_Mem) (z : bv_Mem), r_X8_sum mi = some z → bv_Met yX8_sum MX8_sum bv_X0 d 74 74 [.ref 61] (bv_mr mi) mi (bv_QV z)) (hr_X8_times : ∀ (mi : bv_Mem) (z : bv_Mem), r_X8_times mi = some z → bv_Met yX8_times MX8_times bv_X0 d 74 74 [.ref 61] (bv_mr mi) mi (bv_QV z)) (hr_X8_one : ∀ (mi : bv_Mem) (z : bv_Mem), r_X8_one mi = some z → bv_Met yX8_one MX8_one bv_X0 d 74 74 [.ref 61] (bv_mr mi) mi (bv_QV z)) (hr_X8_opens : ∀ (l1 : Int32) (mi : bv_Mem) (z : bv_Mem), r_X8_opens l1 mi = some z → bv_Met yX8_opens MX8_opens bv_X0 d 74 74 [.ref 61, .int l1] (bv_mr mi) mi (bv_QV z)) : ∀ (fu : Nat) (mi : bv_Mem) (z : bv_Mem), b_X8_sum_4 r_X8_any r_X8_all r_X8_compares r_X8_sum r_X8_times r_X8_one r_X8_opens fu mi = some z → bv_Ev MX8_sum bv_X0 (d + 1) 74 74 (bv_QV z) 4 [some (.ref 61), none] [] 74 (bv_mr mi) mi := by
  intro fu
  induction fu with
  | zero =>
    intro mi z h
    rw [b_X8_sum_4] at h
    cases h
  | succ fu ih =>
    intro mi z h
    rw [b_X8_sum_4] at h
    refine ev_aload_n dX8_sum_4 rfl ?_
    refine ev_getI lf_X8_142 dX8_sum_5 rfl rfl ?_
    refine ev_if_ne 57 dX8_sum_8 (by decide) (fun c1 => ?_) (fun c1 => ?_)
    · replace h := bv_ff c1 h
      obtain rfl := Option.some.inj h
      exact ev_vret rfl dX8_sum_57 ⟨rfl, rfl, rfl⟩
    · replace h := bv_tt c1 h
      refine ev_aload_n dX8_sum_11 rfl ?_
      obtain ⟨z1, hz1, h⟩ := bv_bd h
      refine er_VP [] (fun _ _ q => q) lk_X8_138 dX8_sum_12 rfl rfl rfl (Nat.ble_eq.mpr (by omega)) rfl (wm_X8_look  _ _ hz1) ?_
      refine ev_bipush (43 : Int32) dX8_sum_15 (by decide) ?_
      refine ev_icmp_eq 29 dX8_sum_17 (by decide) (fun c2 => ?_) (fun c2 => ?_)
      · replace h := bv_tt c2 h
        exact ev_weak (by exact And.intro rfl (trivial)) (wb_X8_sum_29 r_X8_any r_X8_all r_X8_compares r_X8_sum r_X8_times r_X8_one r_X8_opens d hb hr_X8_any hr_X8_all hr_X8_compares hr_X8_sum hr_X8_times hr_X8_one hr_X8_opens (b_X8_sum_4 r_X8_any r_X8_all r_X8_compares r_X8_sum r_X8_times r_X8_one r_X8_opens fu) ih _ _ h)
      · replace h := bv_ff c2 h
        refine ev_aload_n dX8_sum_20 rfl ?_
        obtain ⟨z2, hz2, h⟩ := bv_bd h
        refine er_VP [] (fun _ _ q => q) lk_X8_138 dX8_sum_21 rfl rfl rfl (Nat.ble_eq.mpr (by omega)) rfl (wm_X8_look  _ _ hz2) ?_
        refine ev_bipush (45 : Int32) dX8_sum_24 (by decide) ?_
        refine ev_icmp_ne 57 dX8_sum_26 (by decide) (fun c3 => ?_) (fun c3 => ?_)
        · replace h := bv_ff c3 h
          obtain rfl := Option.some.inj h
          exact ev_vret rfl dX8_sum_57 ⟨rfl, rfl, rfl⟩
        · replace h := bv_tt c3 h
          exact ev_weak (by exact And.intro rfl (trivial)) (wb_X8_sum_29 r_X8_any r_X8_all r_X8_compares r_X8_sum r_X8_times r_X8_one r_X8_opens d hb hr_X8_any hr_X8_all hr_X8_compares hr_X8_sum hr_X8_times hr_X8_one hr_X8_opens (b_X8_sum_4 r_X8_any r_X8_all r_X8_compares r_X8_sum r_X8_times r_X8_one r_X8_opens fu) ih _ _ h)
set_option maxRecDepth 100000 in
set_option maxHeartbeats 4000000 in
theorem we_X8_sum (r_X8_any : bv_Mem → Option (bv_Mem)) (r_X8_all : bv_Mem → Option (bv_Mem)) (r_X8_compares : bv_Mem → Option (bv_Mem)) (r_X8_sum : bv_Mem → Option (bv_Mem)) (r_X8_times : bv_Mem → Option (bv_Mem)) (r_X8_one : bv_Mem → Option (bv_Mem)) (r_X8_opens : Int32 → bv_Mem → Option (bv_Mem)) (d : Nat) (hb : 2 ≤ d) (hr_X8_any : ∀ (mi : bv_Mem) (z : bv_Mem), r_X8_any mi = some z → bv_Met yX8_any MX8_any bv_X0 d 74 74 [.ref 61] (bv_mr mi) mi (bv_QV z)) (hr_X8_all : ∀ (mi : bv_Mem) (z : bv_Mem), r_X8_all mi = some z → bv_Met yX8_all MX8_all bv_X0 d 74 74 [.ref 61] (bv_mr mi) mi (bv_QV z)) (hr_X8_compares : ∀ (mi : bv_Mem) (z : bv_Mem), r_X8_compares mi = some z → bv_Met yX8_compares MX8_compares bv_X0 d 74 74 [.ref 61] (bv_mr mi) mi (bv_QV z)) (hr_X8_sum : ∀ (mi : bv_Mem) (z : bv_Mem), r_X8_sum mi = some z → bv_Met yX8_sum MX8_sum bv_X0 d 74 74 [.ref 61] (bv_mr mi) mi (bv_QV z)) (hr_X8_times : ∀ (mi : bv_Mem) (z : bv_Mem), r_X8_times mi = some z → bv_Met yX8_times MX8_times bv_X0 d 74 74 [.ref 61] (bv_mr mi) mi (bv_QV z)) (hr_X8_one : ∀ (mi : bv_Mem) (z : bv_Mem), r_X8_one mi = some z → bv_Met yX8_one MX8_one bv_X0 d 74 74 [.ref 61] (bv_mr mi) mi (bv_QV z)) (hr_X8_opens : ∀ (l1 : Int32) (mi : bv_Mem) (z : bv_Mem), r_X8_opens l1 mi = some z → bv_Met yX8_opens MX8_opens bv_X0 d 74 74 [.ref 61, .int l1] (bv_mr mi) mi (bv_QV z))  (mi : bv_Mem) (z : bv_Mem) (h : F_X8_sum r_X8_any r_X8_all r_X8_compares r_X8_sum r_X8_times r_X8_one r_X8_opens mi = some z) : bv_Ev MX8_sum bv_X0 (d + 1) 74 74 (bv_QV z) 0 [some (.ref 61), none] [] 74 (bv_mr mi) mi := by
  unfold F_X8_sum at h
  refine ev_aload_n dX8_sum_0 rfl ?_
  obtain ⟨z1, hz1, h⟩ := bv_bd h
  refine er_VV [] (fun _ _ q => q) lk_X8_169 dX8_sum_1 rfl rfl rfl (Nat.ble_eq.mpr (Nat.le_refl _)) rfl (hr_X8_times  _ _ hz1) ?_
  exact ev_weak (by exact And.intro rfl (trivial)) (wb_X8_sum_4 r_X8_any r_X8_all r_X8_compares r_X8_sum r_X8_times r_X8_one r_X8_opens d hb hr_X8_any hr_X8_all hr_X8_compares hr_X8_sum hr_X8_times hr_X8_one hr_X8_opens 400 _ _ h)
theorem wm_X8_sum (r_X8_any : bv_Mem → Option (bv_Mem)) (r_X8_all : bv_Mem → Option (bv_Mem)) (r_X8_compares : bv_Mem → Option (bv_Mem)) (r_X8_sum : bv_Mem → Option (bv_Mem)) (r_X8_times : bv_Mem → Option (bv_Mem)) (r_X8_one : bv_Mem → Option (bv_Mem)) (r_X8_opens : Int32 → bv_Mem → Option (bv_Mem)) (d : Nat) (hb : 2 ≤ d) (hr_X8_any : ∀ (mi : bv_Mem) (z : bv_Mem), r_X8_any mi = some z → bv_Met yX8_any MX8_any bv_X0 d 74 74 [.ref 61] (bv_mr mi) mi (bv_QV z)) (hr_X8_all : ∀ (mi : bv_Mem) (z : bv_Mem), r_X8_all mi = some z → bv_Met yX8_all MX8_all bv_X0 d 74 74 [.ref 61] (bv_mr mi) mi (bv_QV z)) (hr_X8_compares : ∀ (mi : bv_Mem) (z : bv_Mem), r_X8_compares mi = some z → bv_Met yX8_compares MX8_compares bv_X0 d 74 74 [.ref 61] (bv_mr mi) mi (bv_QV z)) (hr_X8_sum : ∀ (mi : bv_Mem) (z : bv_Mem), r_X8_sum mi = some z → bv_Met yX8_sum MX8_sum bv_X0 d 74 74 [.ref 61] (bv_mr mi) mi (bv_QV z)) (hr_X8_times : ∀ (mi : bv_Mem) (z : bv_Mem), r_X8_times mi = some z → bv_Met yX8_times MX8_times bv_X0 d 74 74 [.ref 61] (bv_mr mi) mi (bv_QV z)) (hr_X8_one : ∀ (mi : bv_Mem) (z : bv_Mem), r_X8_one mi = some z → bv_Met yX8_one MX8_one bv_X0 d 74 74 [.ref 61] (bv_mr mi) mi (bv_QV z)) (hr_X8_opens : ∀ (l1 : Int32) (mi : bv_Mem) (z : bv_Mem), r_X8_opens l1 mi = some z → bv_Met yX8_opens MX8_opens bv_X0 d 74 74 [.ref 61, .int l1] (bv_mr mi) mi (bv_QV z))  (mi : bv_Mem) (z : bv_Mem) (h : F_X8_sum r_X8_any r_X8_all r_X8_compares r_X8_sum r_X8_times r_X8_one r_X8_opens mi = some z) : bv_Met yX8_sum MX8_sum bv_X0 (d + 1) 74 74 [.ref 61] (bv_mr mi) mi (bv_QV z) :=
  bv_Met.of (pn_X 8 (by decide)) rfl (fun q => absurd q Bool.false_ne_true) (Nat.le_of_ble_eq_true rfl) (we_X8_sum r_X8_any r_X8_all r_X8_compares r_X8_sum r_X8_times r_X8_one r_X8_opens d hb hr_X8_any hr_X8_all hr_X8_compares hr_X8_sum hr_X8_times hr_X8_one hr_X8_opens mi z h)
set_option maxRecDepth 100000 in
set_option maxHeartbeats 4000000 in
theorem wb_X8_times_38 (r_X8_any : bv_Mem → Option (bv_Mem)) (r_X8_all : bv_Mem → Option (bv_Mem)) (r_X8_compares : bv_Mem → Option (bv_Mem)) (r_X8_sum : bv_Mem → Option (bv_Mem)) (r_X8_times : bv_Mem → Option (bv_Mem)) (r_X8_one : bv_Mem → Option (bv_Mem)) (r_X8_opens : Int32 → bv_Mem → Option (bv_Mem)) (d : Nat) (hb : 2 ≤ d) (hr_X8_any : ∀ (mi : bv_Mem) (z : bv_Mem), r_X8_any mi = some z → bv_Met yX8_any MX8_any bv_X0 d 74 74 [.ref 61] (bv_mr mi) mi (bv_QV z)) (hr_X8_all : ∀ (mi : bv_Mem) (z : bv_Mem), r_X8_all mi = some z → bv_Met yX8_all MX8_all bv_X0 d 74 74 [.ref 61] (bv_mr mi) mi (bv_QV z)) (hr_X8_compares : ∀ (mi : bv_Mem) (z : bv_Mem), r_X8_compares mi = some z → bv_Met yX8_compares MX8_compares bv_X0 d 74 74 [.ref 61] (bv_mr mi) mi (bv_QV z)) (hr_X8_sum : ∀ (mi : bv_Mem) (z : bv_Mem), r_X8_sum mi = some z → bv_Met yX8_sum MX8_sum bv_X0 d 74 74 [.ref 61] (bv_mr mi) mi (bv_QV z)) (hr_X8_times : ∀ (mi : bv_Mem) (z : bv_Mem), r_X8_times mi = some z → bv_Met yX8_times MX8_times bv_X0 d 74 74 [.ref 61] (bv_mr mi) mi (bv_QV z)) (hr_X8_one : ∀ (mi : bv_Mem) (z : bv_Mem), r_X8_one mi = some z → bv_Met yX8_one MX8_one bv_X0 d 74 74 [.ref 61] (bv_mr mi) mi (bv_QV z)) (hr_X8_opens : ∀ (l1 : Int32) (mi : bv_Mem) (z : bv_Mem), r_X8_opens l1 mi = some z → bv_Met yX8_opens MX8_opens bv_X0 d 74 74 [.ref 61, .int l1] (bv_mr mi) mi (bv_QV z)) (k_4 : bv_Mem → Option (bv_Mem)) (hk_4 : ∀ (mi : bv_Mem) (z : bv_Mem), k_4 mi = some z → bv_Ev MX8_times bv_X0 (d + 1) 74 74 (bv_QV z) 4 [some (.ref 61), none] [] 74 (bv_mr mi) mi) (mi : bv_Mem) (z : bv_Mem) (h : b_X8_times_38 r_X8_any r_X8_all r_X8_compares r_X8_sum r_X8_times r_X8_one r_X8_opens k_4 mi = some z) : bv_Ev MX8_times bv_X0 (d + 1) 74 74 (bv_QV z) 38 [some (.ref 61), none] [] 74 (bv_mr mi) mi := by
  unfold b_X8_times_38 at h
  refine ev_aload_n dX8_times_38 rfl ?_
  obtain ⟨z1, hz1, h⟩ := bv_bd h
  refine er_VP [] (fun _ _ q => q) lk_X8_138 dX8_times_39 rfl rfl rfl (Nat.ble_eq.mpr (by omega)) rfl (wm_X8_look  _ _ hz1) ?_
  refine ev_istore_n dX8_times_42 rfl rfl ?_
  refine ev_aload_n dX8_times_43 rfl ?_
  refine ev_dup dX8_times_44 rfl ?_
  refine ev_getI lf_X8_128 dX8_times_45 rfl rfl ?_
  refine ev_iconst (1 : Int32) dX8_times_48 (by decide) ?_
  refine ev_iadd dX8_times_49 ?_
  refine er_putI lf_X8_128 dX8_times_50 rfl rfl rfl rfl ?_
  refine ev_aload_n dX8_times_53 rfl ?_
  obtain ⟨z2, hz2, h⟩ := bv_bd h
  refine er_VV [] (fun _ _ q => q) lk_X8_153 dX8_times_54 rfl rfl rfl (Nat.ble_eq.mpr (Nat.le_refl _)) rfl (hr_X8_one  _ _ hz2) ?_
  refine ev_aload_n dX8_times_57 rfl ?_
  refine ev_iload_n dX8_times_58 rfl ?_
  refine ev_iconst (0 : Int32) dX8_times_59 (by decide) ?_
  obtain ⟨z3, hz3, h⟩ := bv_bd h
  refine er_VV [.int _, .int _] (fun _ _ q => q) lk_X8_146 dX8_times_60 rfl rfl rfl (Nat.ble_eq.mpr (by omega)) rfl (wm_X8_step _ _ _ _ hz3) ?_
  refine ev_goto 4 dX8_times_63 (by decide) ?_
  exact ev_weak (by exact And.intro rfl (trivial)) (hk_4 _ _ h)
set_option maxRecDepth 100000 in
set_option maxHeartbeats 4000000 in
theorem wb_X8_times_4 (r_X8_any : bv_Mem → Option (bv_Mem)) (r_X8_all : bv_Mem → Option (bv_Mem)) (r_X8_compares : bv_Mem → Option (bv_Mem)) (r_X8_sum : bv_Mem → Option (bv_Mem)) (r_X8_times : bv_Mem → Option (bv_Mem)) (r_X8_one : bv_Mem → Option (bv_Mem)) (r_X8_opens : Int32 → bv_Mem → Option (bv_Mem)) (d : Nat) (hb : 2 ≤ d) (hr_X8_any : ∀ (mi : bv_Mem) (z : bv_Mem), r_X8_any mi = some z → bv_Met yX8_any MX8_any bv_X0 d 74 74 [.ref 61] (bv_mr mi) mi (bv_QV z)) (hr_X8_all : ∀ (mi : bv_Mem) (z : bv_Mem), r_X8_all mi = some z → bv_Met yX8_all MX8_all bv_X0 d 74 74 [.ref 61] (bv_mr mi) mi (bv_QV z)) (hr_X8_compares : ∀ (mi : bv_Mem) (z : bv_Mem), r_X8_compares mi = some z → bv_Met yX8_compares MX8_compares bv_X0 d 74 74 [.ref 61] (bv_mr mi) mi (bv_QV z)) (hr_X8_sum : ∀ (mi : bv_Mem) (z : bv_Mem), r_X8_sum mi = some z → bv_Met yX8_sum MX8_sum bv_X0 d 74 74 [.ref 61] (bv_mr mi) mi (bv_QV z)) (hr_X8_times : ∀ (mi : bv_Mem) (z : bv_Mem), r_X8_times mi = some z → bv_Met yX8_times MX8_times bv_X0 d 74 74 [.ref 61] (bv_mr mi) mi (bv_QV z)) (hr_X8_one : ∀ (mi : bv_Mem) (z : bv_Mem), r_X8_one mi = some z → bv_Met yX8_one MX8_one bv_X0 d 74 74 [.ref 61] (bv_mr mi) mi (bv_QV z)) (hr_X8_opens : ∀ (l1 : Int32) (mi : bv_Mem) (z : bv_Mem), r_X8_opens l1 mi = some z → bv_Met yX8_opens MX8_opens bv_X0 d 74 74 [.ref 61, .int l1] (bv_mr mi) mi (bv_QV z)) : ∀ (fu : Nat) (mi : bv_Mem) (z : bv_Mem), b_X8_times_4 r_X8_any r_X8_all r_X8_compares r_X8_sum r_X8_times r_X8_one r_X8_opens fu mi = some z → bv_Ev MX8_times bv_X0 (d + 1) 74 74 (bv_QV z) 4 [some (.ref 61), none] [] 74 (bv_mr mi) mi := by
  intro fu
  induction fu with
  | zero =>
    intro mi z h
    rw [b_X8_times_4] at h
    cases h
  | succ fu ih =>
    intro mi z h
    rw [b_X8_times_4] at h
    refine ev_aload_n dX8_times_4 rfl ?_
    refine ev_getI lf_X8_142 dX8_times_5 rfl rfl ?_
    refine ev_if_ne 66 dX8_times_8 (by decide) (fun c1 => ?_) (fun c1 => ?_)
    · replace h := bv_ff c1 h
      obtain rfl := Option.some.inj h
      exact ev_vret rfl dX8_times_66 ⟨rfl, rfl, rfl⟩
    · replace h := bv_tt c1 h
      refine ev_aload_n dX8_times_11 rfl ?_
      obtain ⟨z1, hz1, h⟩ := bv_bd h
      refine er_VP [] (fun _ _ q => q) lk_X8_138 dX8_times_12 rfl rfl rfl (Nat.ble_eq.mpr (by omega)) rfl (wm_X8_look  _ _ hz1) ?_
      refine ev_bipush (42 : Int32) dX8_times_15 (by decide) ?_
      refine ev_icmp_eq 38 dX8_times_17 (by decide) (fun c2 => ?_) (fun c2 => ?_)
      · replace h := bv_tt c2 h
        exact ev_weak (by exact And.intro rfl (trivial)) (wb_X8_times_38 r_X8_any r_X8_all r_X8_compares r_X8_sum r_X8_times r_X8_one r_X8_opens d hb hr_X8_any hr_X8_all hr_X8_compares hr_X8_sum hr_X8_times hr_X8_one hr_X8_opens (b_X8_times_4 r_X8_any r_X8_all r_X8_compares r_X8_sum r_X8_times r_X8_one r_X8_opens fu) ih _ _ h)
      · replace h := bv_ff c2 h
        refine ev_aload_n dX8_times_20 rfl ?_
        obtain ⟨z2, hz2, h⟩ := bv_bd h
        refine er_VP [] (fun _ _ q => q) lk_X8_138 dX8_times_21 rfl rfl rfl (Nat.ble_eq.mpr (by omega)) rfl (wm_X8_look  _ _ hz2) ?_
        refine ev_bipush (47 : Int32) dX8_times_24 (by decide) ?_
        refine ev_icmp_eq 38 dX8_times_26 (by decide) (fun c3 => ?_) (fun c3 => ?_)
        · replace h := bv_tt c3 h
          exact ev_weak (by exact And.intro rfl (trivial)) (wb_X8_times_38 r_X8_any r_X8_all r_X8_compares r_X8_sum r_X8_times r_X8_one r_X8_opens d hb hr_X8_any hr_X8_all hr_X8_compares hr_X8_sum hr_X8_times hr_X8_one hr_X8_opens (b_X8_times_4 r_X8_any r_X8_all r_X8_compares r_X8_sum r_X8_times r_X8_one r_X8_opens fu) ih _ _ h)
        · replace h := bv_ff c3 h
          refine ev_aload_n dX8_times_29 rfl ?_
          obtain ⟨z3, hz3, h⟩ := bv_bd h
          refine er_VP [] (fun _ _ q => q) lk_X8_138 dX8_times_30 rfl rfl rfl (Nat.ble_eq.mpr (by omega)) rfl (wm_X8_look  _ _ hz3) ?_
          refine ev_bipush (37 : Int32) dX8_times_33 (by decide) ?_
          refine ev_icmp_ne 66 dX8_times_35 (by decide) (fun c4 => ?_) (fun c4 => ?_)
          · replace h := bv_ff c4 h
            obtain rfl := Option.some.inj h
            exact ev_vret rfl dX8_times_66 ⟨rfl, rfl, rfl⟩
          · replace h := bv_tt c4 h
            exact ev_weak (by exact And.intro rfl (trivial)) (wb_X8_times_38 r_X8_any r_X8_all r_X8_compares r_X8_sum r_X8_times r_X8_one r_X8_opens d hb hr_X8_any hr_X8_all hr_X8_compares hr_X8_sum hr_X8_times hr_X8_one hr_X8_opens (b_X8_times_4 r_X8_any r_X8_all r_X8_compares r_X8_sum r_X8_times r_X8_one r_X8_opens fu) ih _ _ h)
set_option maxRecDepth 100000 in
set_option maxHeartbeats 4000000 in
theorem we_X8_times (r_X8_any : bv_Mem → Option (bv_Mem)) (r_X8_all : bv_Mem → Option (bv_Mem)) (r_X8_compares : bv_Mem → Option (bv_Mem)) (r_X8_sum : bv_Mem → Option (bv_Mem)) (r_X8_times : bv_Mem → Option (bv_Mem)) (r_X8_one : bv_Mem → Option (bv_Mem)) (r_X8_opens : Int32 → bv_Mem → Option (bv_Mem)) (d : Nat) (hb : 2 ≤ d) (hr_X8_any : ∀ (mi : bv_Mem) (z : bv_Mem), r_X8_any mi = some z → bv_Met yX8_any MX8_any bv_X0 d 74 74 [.ref 61] (bv_mr mi) mi (bv_QV z)) (hr_X8_all : ∀ (mi : bv_Mem) (z : bv_Mem), r_X8_all mi = some z → bv_Met yX8_all MX8_all bv_X0 d 74 74 [.ref 61] (bv_mr mi) mi (bv_QV z)) (hr_X8_compares : ∀ (mi : bv_Mem) (z : bv_Mem), r_X8_compares mi = some z → bv_Met yX8_compares MX8_compares bv_X0 d 74 74 [.ref 61] (bv_mr mi) mi (bv_QV z)) (hr_X8_sum : ∀ (mi : bv_Mem) (z : bv_Mem), r_X8_sum mi = some z → bv_Met yX8_sum MX8_sum bv_X0 d 74 74 [.ref 61] (bv_mr mi) mi (bv_QV z)) (hr_X8_times : ∀ (mi : bv_Mem) (z : bv_Mem), r_X8_times mi = some z → bv_Met yX8_times MX8_times bv_X0 d 74 74 [.ref 61] (bv_mr mi) mi (bv_QV z)) (hr_X8_one : ∀ (mi : bv_Mem) (z : bv_Mem), r_X8_one mi = some z → bv_Met yX8_one MX8_one bv_X0 d 74 74 [.ref 61] (bv_mr mi) mi (bv_QV z)) (hr_X8_opens : ∀ (l1 : Int32) (mi : bv_Mem) (z : bv_Mem), r_X8_opens l1 mi = some z → bv_Met yX8_opens MX8_opens bv_X0 d 74 74 [.ref 61, .int l1] (bv_mr mi) mi (bv_QV z))  (mi : bv_Mem) (z : bv_Mem) (h : F_X8_times r_X8_any r_X8_all r_X8_compares r_X8_sum r_X8_times r_X8_one r_X8_opens mi = some z) : bv_Ev MX8_times bv_X0 (d + 1) 74 74 (bv_QV z) 0 [some (.ref 61), none] [] 74 (bv_mr mi) mi := by
  unfold F_X8_times at h
  refine ev_aload_n dX8_times_0 rfl ?_
  obtain ⟨z1, hz1, h⟩ := bv_bd h
  refine er_VV [] (fun _ _ q => q) lk_X8_153 dX8_times_1 rfl rfl rfl (Nat.ble_eq.mpr (Nat.le_refl _)) rfl (hr_X8_one  _ _ hz1) ?_
  exact ev_weak (by exact And.intro rfl (trivial)) (wb_X8_times_4 r_X8_any r_X8_all r_X8_compares r_X8_sum r_X8_times r_X8_one r_X8_opens d hb hr_X8_any hr_X8_all hr_X8_compares hr_X8_sum hr_X8_times hr_X8_one hr_X8_opens 400 _ _ h)
theorem wm_X8_times (r_X8_any : bv_Mem → Option (bv_Mem)) (r_X8_all : bv_Mem → Option (bv_Mem)) (r_X8_compares : bv_Mem → Option (bv_Mem)) (r_X8_sum : bv_Mem → Option (bv_Mem)) (r_X8_times : bv_Mem → Option (bv_Mem)) (r_X8_one : bv_Mem → Option (bv_Mem)) (r_X8_opens : Int32 → bv_Mem → Option (bv_Mem)) (d : Nat) (hb : 2 ≤ d) (hr_X8_any : ∀ (mi : bv_Mem) (z : bv_Mem), r_X8_any mi = some z → bv_Met yX8_any MX8_any bv_X0 d 74 74 [.ref 61] (bv_mr mi) mi (bv_QV z)) (hr_X8_all : ∀ (mi : bv_Mem) (z : bv_Mem), r_X8_all mi = some z → bv_Met yX8_all MX8_all bv_X0 d 74 74 [.ref 61] (bv_mr mi) mi (bv_QV z)) (hr_X8_compares : ∀ (mi : bv_Mem) (z : bv_Mem), r_X8_compares mi = some z → bv_Met yX8_compares MX8_compares bv_X0 d 74 74 [.ref 61] (bv_mr mi) mi (bv_QV z)) (hr_X8_sum : ∀ (mi : bv_Mem) (z : bv_Mem), r_X8_sum mi = some z → bv_Met yX8_sum MX8_sum bv_X0 d 74 74 [.ref 61] (bv_mr mi) mi (bv_QV z)) (hr_X8_times : ∀ (mi : bv_Mem) (z : bv_Mem), r_X8_times mi = some z → bv_Met yX8_times MX8_times bv_X0 d 74 74 [.ref 61] (bv_mr mi) mi (bv_QV z)) (hr_X8_one : ∀ (mi : bv_Mem) (z : bv_Mem), r_X8_one mi = some z → bv_Met yX8_one MX8_one bv_X0 d 74 74 [.ref 61] (bv_mr mi) mi (bv_QV z)) (hr_X8_opens : ∀ (l1 : Int32) (mi : bv_Mem) (z : bv_Mem), r_X8_opens l1 mi = some z → bv_Met yX8_opens MX8_opens bv_X0 d 74 74 [.ref 61, .int l1] (bv_mr mi) mi (bv_QV z))  (mi : bv_Mem) (z : bv_Mem) (h : F_X8_times r_X8_any r_X8_all r_X8_compares r_X8_sum r_X8_times r_X8_one r_X8_opens mi = some z) : bv_Met yX8_times MX8_times bv_X0 (d + 1) 74 74 [.ref 61] (bv_mr mi) mi (bv_QV z) :=
  bv_Met.of (pn_X 8 (by decide)) rfl (fun q => absurd q Bool.false_ne_true) (Nat.le_of_ble_eq_true rfl) (we_X8_times r_X8_any r_X8_all r_X8_compares r_X8_sum r_X8_times r_X8_one r_X8_opens d hb hr_X8_any hr_X8_all hr_X8_compares hr_X8_sum hr_X8_times hr_X8_one hr_X8_opens mi z h)
set_option maxRecDepth 100000 in
set_option maxHeartbeats 4000000 in
theorem we_X8_nameOf   (l1 : Int32) (mi : bv_Mem) (z : Int32) (h : f_X8_nameOf  l1 mi = some z) : bv_Ev MX8_nameOf bv_X0 0 74 74 (bv_QP z mi) 0 [some (.ref 61), some (.int l1)] [] 74 (bv_mr mi) mi := by
  unfold f_X8_nameOf at h
  refine ev_iload_n dX8_nameOf_0 rfl ?_
  by_cases c1 : l1 = (97 : Int32)
  · replace h := bv_tt c1 h
    refine ev_tableIn (124) 125 dX8_nameOf_1 (by rw [c1]; decide) (by rw [c1]; decide) (by rw [c1]; decide) (by decide) ?_
    refine ev_aload_n dX8_nameOf_125 rfl ?_
    refine ev_getI lf_X8_135 dX8_nameOf_126 rfl rfl ?_
    refine ev_iconst (1 : Int32) dX8_nameOf_129 (by decide) ?_
    refine ev_icmp_eq 137 dX8_nameOf_130 (by decide) (fun c2 => ?_) (fun c2 => ?_)
    · replace h := bv_tt c2 h
      refine ev_iload_n dX8_nameOf_137 rfl ?_
      refine ev_bipush (107 : Int32) dX8_nameOf_138 (by decide) ?_
      refine ev_icmp_ne 147 dX8_nameOf_140 (by decide) (fun c3 => ?_) (fun c3 => ?_)
      · replace h := bv_ff c3 h
        refine ev_iload_n dX8_nameOf_147 rfl ?_
        refine ev_bipush (108 : Int32) dX8_nameOf_148 (by decide) ?_
        refine ev_icmp_ne 157 dX8_nameOf_150 (by decide) (fun c4 => ?_) (fun c4 => ?_)
        · replace h := bv_ff c4 h
          refine ev_iconst (2 : Int32) dX8_nameOf_157 (by decide) ?_
          obtain rfl := Option.some.inj h
          exact ev_iret rfl dX8_nameOf_158 ⟨rfl, rfl, rfl⟩
        · replace h := bv_tt c4 h
          refine ev_iconst (1 : Int32) dX8_nameOf_153 (by decide) ?_
          refine ev_goto 158 dX8_nameOf_154 (by decide) ?_
          obtain rfl := Option.some.inj h
          exact ev_iret rfl dX8_nameOf_158 ⟨rfl, rfl, rfl⟩
      · replace h := bv_tt c3 h
        refine ev_iconst (0 : Int32) dX8_nameOf_143 (by decide) ?_
        refine ev_goto 158 dX8_nameOf_144 (by decide) ?_
        obtain rfl := Option.some.inj h
        exact ev_iret rfl dX8_nameOf_158 ⟨rfl, rfl, rfl⟩
    · replace h := bv_ff c2 h
      refine ev_iconst (-1 : Int32) dX8_nameOf_133 (by decide) ?_
      refine ev_goto 158 dX8_nameOf_134 (by decide) ?_
      obtain rfl := Option.some.inj h
      exact ev_iret rfl dX8_nameOf_158 ⟨rfl, rfl, rfl⟩
  replace h := bv_ff c1 h
  by_cases c5 : l1 = (98 : Int32)
  · replace h := bv_tt c5 h
    refine ev_tableIn (158) 159 dX8_nameOf_1 (by rw [c5]; decide) (by rw [c5]; decide) (by rw [c5]; decide) (by decide) ?_
    refine ev_iconst (-1 : Int32) dX8_nameOf_159 (by decide) ?_
    obtain rfl := Option.some.inj h
    exact ev_iret rfl dX8_nameOf_160 ⟨rfl, rfl, rfl⟩
  replace h := bv_ff c5 h
  by_cases c6 : l1 = (99 : Int32)
  · replace h := bv_tt c6 h
    refine ev_tableIn (158) 159 dX8_nameOf_1 (by rw [c6]; decide) (by rw [c6]; decide) (by rw [c6]; decide) (by decide) ?_
    refine ev_iconst (-1 : Int32) dX8_nameOf_159 (by decide) ?_
    obtain rfl := Option.some.inj h
    exact ev_iret rfl dX8_nameOf_160 ⟨rfl, rfl, rfl⟩
  replace h := bv_ff c6 h
  by_cases c7 : l1 = (100 : Int32)
  · replace h := bv_tt c7 h
    refine ev_tableIn (91) 92 dX8_nameOf_1 (by rw [c7]; decide) (by rw [c7]; decide) (by rw [c7]; decide) (by decide) ?_
    refine ev_aload_n dX8_nameOf_92 rfl ?_
    refine ev_getI lf_X8_135 dX8_nameOf_93 rfl rfl ?_
    refine ev_if_eq 103 dX8_nameOf_96 (by decide) (fun c8 => ?_) (fun c8 => ?_)
    · replace h := bv_tt c8 h
      refine ev_iload_n dX8_nameOf_103 rfl ?_
      refine ev_bipush (104 : Int32) dX8_nameOf_104 (by decide) ?_
      refine ev_icmp_ne 113 dX8_nameOf_106 (by decide) (fun c9 => ?_) (fun c9 => ?_)
      · replace h := bv_ff c9 h
        refine ev_iload_n dX8_nameOf_113 rfl ?_
        refine ev_bipush (115 : Int32) dX8_nameOf_114 (by decide) ?_
        refine ev_icmp_ne 123 dX8_nameOf_116 (by decide) (fun c10 => ?_) (fun c10 => ?_)
        · replace h := bv_ff c10 h
          refine ev_iconst (2 : Int32) dX8_nameOf_123 (by decide) ?_
          obtain rfl := Option.some.inj h
          exact ev_iret rfl dX8_nameOf_124 ⟨rfl, rfl, rfl⟩
        · replace h := bv_tt c10 h
          refine ev_iconst (1 : Int32) dX8_nameOf_119 (by decide) ?_
          refine ev_goto 124 dX8_nameOf_120 (by decide) ?_
          obtain rfl := Option.some.inj h
          exact ev_iret rfl dX8_nameOf_124 ⟨rfl, rfl, rfl⟩
      · replace h := bv_tt c9 h
        refine ev_iconst (0 : Int32) dX8_nameOf_109 (by decide) ?_
        refine ev_goto 124 dX8_nameOf_110 (by decide) ?_
        obtain rfl := Option.some.inj h
        exact ev_iret rfl dX8_nameOf_124 ⟨rfl, rfl, rfl⟩
    · replace h := bv_ff c8 h
      refine ev_iconst (-1 : Int32) dX8_nameOf_99 (by decide) ?_
      refine ev_goto 124 dX8_nameOf_100 (by decide) ?_
      obtain rfl := Option.some.inj h
      exact ev_iret rfl dX8_nameOf_124 ⟨rfl, rfl, rfl⟩
  replace h := bv_ff c7 h
  by_cases c11 : l1 = (101 : Int32)
  · replace h := bv_tt c11 h
    refine ev_tableIn (158) 159 dX8_nameOf_1 (by rw [c11]; decide) (by rw [c11]; decide) (by rw [c11]; decide) (by decide) ?_
    refine ev_iconst (-1 : Int32) dX8_nameOf_159 (by decide) ?_
    obtain rfl := Option.some.inj h
    exact ev_iret rfl dX8_nameOf_160 ⟨rfl, rfl, rfl⟩
  replace h := bv_ff c11 h
  by_cases c12 : l1 = (102 : Int32)
  · replace h := bv_tt c12 h
    refine ev_tableIn (158) 159 dX8_nameOf_1 (by rw [c12]; decide) (by rw [c12]; decide) (by rw [c12]; decide) (by decide) ?_
    refine ev_iconst (-1 : Int32) dX8_nameOf_159 (by decide) ?_
    obtain rfl := Option.some.inj h
    exact ev_iret rfl dX8_nameOf_160 ⟨rfl, rfl, rfl⟩
  replace h := bv_ff c12 h
  by_cases c13 : l1 = (103 : Int32)
  · replace h := bv_tt c13 h
    refine ev_tableIn (158) 159 dX8_nameOf_1 (by rw [c13]; decide) (by rw [c13]; decide) (by rw [c13]; decide) (by decide) ?_
    refine ev_iconst (-1 : Int32) dX8_nameOf_159 (by decide) ?_
    obtain rfl := Option.some.inj h
    exact ev_iret rfl dX8_nameOf_160 ⟨rfl, rfl, rfl⟩
  replace h := bv_ff c13 h
  by_cases c14 : l1 = (104 : Int32)
  · replace h := bv_tt c14 h
    refine ev_tableIn (91) 92 dX8_nameOf_1 (by rw [c14]; decide) (by rw [c14]; decide) (by rw [c14]; decide) (by decide) ?_
    refine ev_aload_n dX8_nameOf_92 rfl ?_
    refine ev_getI lf_X8_135 dX8_nameOf_93 rfl rfl ?_
    refine ev_if_eq 103 dX8_nameOf_96 (by decide) (fun c15 => ?_) (fun c15 => ?_)
    · replace h := bv_tt c15 h
      refine ev_iload_n dX8_nameOf_103 rfl ?_
      refine ev_bipush (104 : Int32) dX8_nameOf_104 (by decide) ?_
      refine ev_icmp_ne 113 dX8_nameOf_106 (by decide) (fun c16 => ?_) (fun c16 => ?_)
      · replace h := bv_ff c16 h
        refine ev_iload_n dX8_nameOf_113 rfl ?_
        refine ev_bipush (115 : Int32) dX8_nameOf_114 (by decide) ?_
        refine ev_icmp_ne 123 dX8_nameOf_116 (by decide) (fun c17 => ?_) (fun c17 => ?_)
        · replace h := bv_ff c17 h
          refine ev_iconst (2 : Int32) dX8_nameOf_123 (by decide) ?_
          obtain rfl := Option.some.inj h
          exact ev_iret rfl dX8_nameOf_124 ⟨rfl, rfl, rfl⟩
        · replace h := bv_tt c17 h
          refine ev_iconst (1 : Int32) dX8_nameOf_119 (by decide) ?_
          refine ev_goto 124 dX8_nameOf_120 (by decide) ?_
          obtain rfl := Option.some.inj h
          exact ev_iret rfl dX8_nameOf_124 ⟨rfl, rfl, rfl⟩
      · replace h := bv_tt c16 h
        refine ev_iconst (0 : Int32) dX8_nameOf_109 (by decide) ?_
        refine ev_goto 124 dX8_nameOf_110 (by decide) ?_
        obtain rfl := Option.some.inj h
        exact ev_iret rfl dX8_nameOf_124 ⟨rfl, rfl, rfl⟩
    · replace h := bv_ff c15 h
      refine ev_iconst (-1 : Int32) dX8_nameOf_99 (by decide) ?_
      refine ev_goto 124 dX8_nameOf_100 (by decide) ?_
      obtain rfl := Option.some.inj h
      exact ev_iret rfl dX8_nameOf_124 ⟨rfl, rfl, rfl⟩
  replace h := bv_ff c14 h
  by_cases c18 : l1 = (105 : Int32)
  · replace h := bv_tt c18 h
    refine ev_tableIn (158) 159 dX8_nameOf_1 (by rw [c18]; decide) (by rw [c18]; decide) (by rw [c18]; decide) (by decide) ?_
    refine ev_iconst (-1 : Int32) dX8_nameOf_159 (by decide) ?_
    obtain rfl := Option.some.inj h
    exact ev_iret rfl dX8_nameOf_160 ⟨rfl, rfl, rfl⟩
  replace h := bv_ff c18 h
  by_cases c19 : l1 = (106 : Int32)
  · replace h := bv_tt c19 h
    refine ev_tableIn (158) 159 dX8_nameOf_1 (by rw [c19]; decide) (by rw [c19]; decide) (by rw [c19]; decide) (by decide) ?_
    refine ev_iconst (-1 : Int32) dX8_nameOf_159 (by decide) ?_
    obtain rfl := Option.some.inj h
    exact ev_iret rfl dX8_nameOf_160 ⟨rfl, rfl, rfl⟩
  replace h := bv_ff c19 h
  by_cases c20 : l1 = (107 : Int32)
  · replace h := bv_tt c20 h
    refine ev_tableIn (124) 125 dX8_nameOf_1 (by rw [c20]; decide) (by rw [c20]; decide) (by rw [c20]; decide) (by decide) ?_
    refine ev_aload_n dX8_nameOf_125 rfl ?_
    refine ev_getI lf_X8_135 dX8_nameOf_126 rfl rfl ?_
    refine ev_iconst (1 : Int32) dX8_nameOf_129 (by decide) ?_
    refine ev_icmp_eq 137 dX8_nameOf_130 (by decide) (fun c21 => ?_) (fun c21 => ?_)
    · replace h := bv_tt c21 h
      refine ev_iload_n dX8_nameOf_137 rfl ?_
      refine ev_bipush (107 : Int32) dX8_nameOf_138 (by decide) ?_
      refine ev_icmp_ne 147 dX8_nameOf_140 (by decide) (fun c22 => ?_) (fun c22 => ?_)
      · replace h := bv_ff c22 h
        refine ev_iload_n dX8_nameOf_147 rfl ?_
        refine ev_bipush (108 : Int32) dX8_nameOf_148 (by decide) ?_
        refine ev_icmp_ne 157 dX8_nameOf_150 (by decide) (fun c23 => ?_) (fun c23 => ?_)
        · replace h := bv_ff c23 h
          refine ev_iconst (2 : Int32) dX8_nameOf_157 (by decide) ?_
          obtain rfl := Option.some.inj h
          exact ev_iret rfl dX8_nameOf_158 ⟨rfl, rfl, rfl⟩
        · replace h := bv_tt c23 h
          refine ev_iconst (1 : Int32) dX8_nameOf_153 (by decide) ?_
          refine ev_goto 158 dX8_nameOf_154 (by decide) ?_
          obtain rfl := Option.some.inj h
          exact ev_iret rfl dX8_nameOf_158 ⟨rfl, rfl, rfl⟩
      · replace h := bv_tt c22 h
        refine ev_iconst (0 : Int32) dX8_nameOf_143 (by decide) ?_
        refine ev_goto 158 dX8_nameOf_144 (by decide) ?_
        obtain rfl := Option.some.inj h
        exact ev_iret rfl dX8_nameOf_158 ⟨rfl, rfl, rfl⟩
    · replace h := bv_ff c21 h
      refine ev_iconst (-1 : Int32) dX8_nameOf_133 (by decide) ?_
      refine ev_goto 158 dX8_nameOf_134 (by decide) ?_
      obtain rfl := Option.some.inj h
      exact ev_iret rfl dX8_nameOf_158 ⟨rfl, rfl, rfl⟩
  replace h := bv_ff c20 h
  by_cases c24 : l1 = (108 : Int32)
  · replace h := bv_tt c24 h
    refine ev_tableIn (124) 125 dX8_nameOf_1 (by rw [c24]; decide) (by rw [c24]; decide) (by rw [c24]; decide) (by decide) ?_
    refine ev_aload_n dX8_nameOf_125 rfl ?_
    refine ev_getI lf_X8_135 dX8_nameOf_126 rfl rfl ?_
    refine ev_iconst (1 : Int32) dX8_nameOf_129 (by decide) ?_
    refine ev_icmp_eq 137 dX8_nameOf_130 (by decide) (fun c25 => ?_) (fun c25 => ?_)
    · replace h := bv_tt c25 h
      refine ev_iload_n dX8_nameOf_137 rfl ?_
      refine ev_bipush (107 : Int32) dX8_nameOf_138 (by decide) ?_
      refine ev_icmp_ne 147 dX8_nameOf_140 (by decide) (fun c26 => ?_) (fun c26 => ?_)
      · replace h := bv_ff c26 h
        refine ev_iload_n dX8_nameOf_147 rfl ?_
        refine ev_bipush (108 : Int32) dX8_nameOf_148 (by decide) ?_
        refine ev_icmp_ne 157 dX8_nameOf_150 (by decide) (fun c27 => ?_) (fun c27 => ?_)
        · replace h := bv_ff c27 h
          refine ev_iconst (2 : Int32) dX8_nameOf_157 (by decide) ?_
          obtain rfl := Option.some.inj h
          exact ev_iret rfl dX8_nameOf_158 ⟨rfl, rfl, rfl⟩
        · replace h := bv_tt c27 h
          refine ev_iconst (1 : Int32) dX8_nameOf_153 (by decide) ?_
          refine ev_goto 158 dX8_nameOf_154 (by decide) ?_
          obtain rfl := Option.some.inj h
          exact ev_iret rfl dX8_nameOf_158 ⟨rfl, rfl, rfl⟩
      · replace h := bv_tt c26 h
        refine ev_iconst (0 : Int32) dX8_nameOf_143 (by decide) ?_
        refine ev_goto 158 dX8_nameOf_144 (by decide) ?_
        obtain rfl := Option.some.inj h
        exact ev_iret rfl dX8_nameOf_158 ⟨rfl, rfl, rfl⟩
    · replace h := bv_ff c25 h
      refine ev_iconst (-1 : Int32) dX8_nameOf_133 (by decide) ?_
      refine ev_goto 158 dX8_nameOf_134 (by decide) ?_
      obtain rfl := Option.some.inj h
      exact ev_iret rfl dX8_nameOf_158 ⟨rfl, rfl, rfl⟩
  replace h := bv_ff c24 h
  by_cases c28 : l1 = (109 : Int32)
  · replace h := bv_tt c28 h
    refine ev_tableIn (158) 159 dX8_nameOf_1 (by rw [c28]; decide) (by rw [c28]; decide) (by rw [c28]; decide) (by decide) ?_
    refine ev_iconst (-1 : Int32) dX8_nameOf_159 (by decide) ?_
    obtain rfl := Option.some.inj h
    exact ev_iret rfl dX8_nameOf_160 ⟨rfl, rfl, rfl⟩
  replace h := bv_ff c28 h
  by_cases c29 : l1 = (110 : Int32)
  · replace h := bv_tt c29 h
    refine ev_tableIn (158) 159 dX8_nameOf_1 (by rw [c29]; decide) (by rw [c29]; decide) (by rw [c29]; decide) (by decide) ?_
    refine ev_iconst (-1 : Int32) dX8_nameOf_159 (by decide) ?_
    obtain rfl := Option.some.inj h
    exact ev_iret rfl dX8_nameOf_160 ⟨rfl, rfl, rfl⟩
  replace h := bv_ff c29 h
  by_cases c30 : l1 = (111 : Int32)
  · replace h := bv_tt c30 h
    refine ev_tableIn (158) 159 dX8_nameOf_1 (by rw [c30]; decide) (by rw [c30]; decide) (by rw [c30]; decide) (by decide) ?_
    refine ev_iconst (-1 : Int32) dX8_nameOf_159 (by decide) ?_
    obtain rfl := Option.some.inj h
    exact ev_iret rfl dX8_nameOf_160 ⟨rfl, rfl, rfl⟩
  replace h := bv_ff c30 h
  by_cases c31 : l1 = (112 : Int32)
  · replace h := bv_tt c31 h
    refine ev_tableIn (158) 159 dX8_nameOf_1 (by rw [c31]; decide) (by rw [c31]; decide) (by rw [c31]; decide) (by decide) ?_
    refine ev_iconst (-1 : Int32) dX8_nameOf_159 (by decide) ?_
    obtain rfl := Option.some.inj h
    exact ev_iret rfl dX8_nameOf_160 ⟨rfl, rfl, rfl⟩
  replace h := bv_ff c31 h
  by_cases c32 : l1 = (113 : Int32)
  · replace h := bv_tt c32 h
    refine ev_tableIn (158) 159 dX8_nameOf_1 (by rw [c32]; decide) (by rw [c32]; decide) (by rw [c32]; decide) (by decide) ?_
    refine ev_iconst (-1 : Int32) dX8_nameOf_159 (by decide) ?_
    obtain rfl := Option.some.inj h
    exact ev_iret rfl dX8_nameOf_160 ⟨rfl, rfl, rfl⟩
  replace h := bv_ff c32 h
  by_cases c33 : l1 = (114 : Int32)
  · replace h := bv_tt c33 h
    refine ev_tableIn (158) 159 dX8_nameOf_1 (by rw [c33]; decide) (by rw [c33]; decide) (by rw [c33]; decide) (by decide) ?_
    refine ev_iconst (-1 : Int32) dX8_nameOf_159 (by decide) ?_
    obtain rfl := Option.some.inj h
    exact ev_iret rfl dX8_nameOf_160 ⟨rfl, rfl, rfl⟩
  replace h := bv_ff c33 h
  by_cases c34 : l1 = (115 : Int32)
  · replace h := bv_tt c34 h
    refine ev_tableIn (91) 92 dX8_nameOf_1 (by rw [c34]; decide) (by rw [c34]; decide) (by rw [c34]; decide) (by decide) ?_
    refine ev_aload_n dX8_nameOf_92 rfl ?_
    refine ev_getI lf_X8_135 dX8_nameOf_93 rfl rfl ?_
    refine ev_if_eq 103 dX8_nameOf_96 (by decide) (fun c35 => ?_) (fun c35 => ?_)
    · replace h := bv_tt c35 h
      refine ev_iload_n dX8_nameOf_103 rfl ?_
      refine ev_bipush (104 : Int32) dX8_nameOf_104 (by decide) ?_
      refine ev_icmp_ne 113 dX8_nameOf_106 (by decide) (fun c36 => ?_) (fun c36 => ?_)
      · replace h := bv_ff c36 h
        refine ev_iload_n dX8_nameOf_113 rfl ?_
        refine ev_bipush (115 : Int32) dX8_nameOf_114 (by decide) ?_
        refine ev_icmp_ne 123 dX8_nameOf_116 (by decide) (fun c37 => ?_) (fun c37 => ?_)
        · replace h := bv_ff c37 h
          refine ev_iconst (2 : Int32) dX8_nameOf_123 (by decide) ?_
          obtain rfl := Option.some.inj h
          exact ev_iret rfl dX8_nameOf_124 ⟨rfl, rfl, rfl⟩
        · replace h := bv_tt c37 h
          refine ev_iconst (1 : Int32) dX8_nameOf_119 (by decide) ?_
          refine ev_goto 124 dX8_nameOf_120 (by decide) ?_
          obtain rfl := Option.some.inj h
          exact ev_iret rfl dX8_nameOf_124 ⟨rfl, rfl, rfl⟩
      · replace h := bv_tt c36 h
        refine ev_iconst (0 : Int32) dX8_nameOf_109 (by decide) ?_
        refine ev_goto 124 dX8_nameOf_110 (by decide) ?_
        obtain rfl := Option.some.inj h
        exact ev_iret rfl dX8_nameOf_124 ⟨rfl, rfl, rfl⟩
    · replace h := bv_ff c35 h
      refine ev_iconst (-1 : Int32) dX8_nameOf_99 (by decide) ?_
      refine ev_goto 124 dX8_nameOf_100 (by decide) ?_
      obtain rfl := Option.some.inj h
      exact ev_iret rfl dX8_nameOf_124 ⟨rfl, rfl, rfl⟩
  replace h := bv_ff c34 h
  refine ev_tableOut 159 dX8_nameOf_1 (bv_sw 19 (by decide) (fun j hj => by match j, hj with | 0, _ => exact c1 | 1, _ => exact c5 | 2, _ => exact c6 | 3, _ => exact c7 | 4, _ => exact c11 | 5, _ => exact c12 | 6, _ => exact c13 | 7, _ => exact c14 | 8, _ => exact c18 | 9, _ => exact c19 | 10, _ => exact c20 | 11, _ => exact c24 | 12, _ => exact c28 | 13, _ => exact c29 | 14, _ => exact c30 | 15, _ => exact c31 | 16, _ => exact c32 | 17, _ => exact c33 | 18, _ => exact c34 | j + 19, hj => exact absurd hj (by omega))) (by decide) ?_
  refine ev_iconst (-1 : Int32) dX8_nameOf_159 (by decide) ?_
  obtain rfl := Option.some.inj h
  exact ev_iret rfl dX8_nameOf_160 ⟨rfl, rfl, rfl⟩
theorem wm_X8_nameOf   (l1 : Int32) (mi : bv_Mem) (z : Int32) (h : f_X8_nameOf  l1 mi = some z) : bv_Met yX8_nameOf MX8_nameOf bv_X0 0 74 74 [.ref 61, .int l1] (bv_mr mi) mi (bv_QP z mi) :=
  bv_Met.of (pn_X 8 (by decide)) rfl (fun q => absurd q Bool.false_ne_true) (Nat.le_of_ble_eq_true rfl) (we_X8_nameOf   l1 mi z h)
set_option maxRecDepth 100000 in
set_option maxHeartbeats 4000000 in
theorem wb_X8_number_52  (l1 : Int32) (l2 : Int32) (mi : bv_Mem) (z : bv_Mem) (h : b_X8_number_52 l1 l2 mi = some z) : bv_Ev MX8_number bv_X0 1 74 74 (bv_QV z) 52 [some (.ref 61), some (.int l1), some (.int l2)] [] 74 (bv_mr mi) mi := by
  unfold b_X8_number_52 at h
  refine ev_aload_n dX8_number_52 rfl ?_
  refine ev_iload_n dX8_number_53 rfl ?_
  refine ev_if_ne 61 dX8_number_54 (by decide) (fun c1 => ?_) (fun c1 => ?_)
  · replace h := bv_ff c1 h
    refine ev_iconst (0 : Int32) dX8_number_61 (by decide) ?_
    refine er_putI lf_X8_142 dX8_number_62 rfl rfl rfl rfl ?_
    refine ev_aload_n dX8_number_65 rfl ?_
    refine ev_iconst (1 : Int32) dX8_number_66 (by decide) ?_
    refine ev_iload_n dX8_number_67 rfl ?_
    obtain ⟨z1, hz1, h⟩ := bv_bd h
    refine er_VV [.int _, .int _] (fun _ _ q => q) lk_X8_146 dX8_number_68 rfl rfl rfl rfl rfl (wm_X8_step _ _ _ _ hz1) ?_
    obtain rfl := Option.some.inj h
    exact ev_vret rfl dX8_number_71 ⟨rfl, rfl, rfl⟩
  · replace h := bv_tt c1 h
    refine ev_iconst (1 : Int32) dX8_number_57 (by decide) ?_
    refine ev_goto 62 dX8_number_58 (by decide) ?_
    refine er_putI lf_X8_142 dX8_number_62 rfl rfl rfl rfl ?_
    refine ev_aload_n dX8_number_65 rfl ?_
    refine ev_iconst (1 : Int32) dX8_number_66 (by decide) ?_
    refine ev_iload_n dX8_number_67 rfl ?_
    obtain ⟨z2, hz2, h⟩ := bv_bd h
    refine er_VV [.int _, .int _] (fun _ _ q => q) lk_X8_146 dX8_number_68 rfl rfl rfl rfl rfl (wm_X8_step _ _ _ _ hz2) ?_
    obtain rfl := Option.some.inj h
    exact ev_vret rfl dX8_number_71 ⟨rfl, rfl, rfl⟩
set_option maxRecDepth 100000 in
set_option maxHeartbeats 4000000 in
theorem wb_X8_number_4  : ∀ (fu : Nat) (l1 : Int32) (l2 : Int32) (mi : bv_Mem) (z : bv_Mem), b_X8_number_4 fu l1 l2 mi = some z → bv_Ev MX8_number bv_X0 1 74 74 (bv_QV z) 4 [some (.ref 61), some (.int l1), some (.int l2)] [] 74 (bv_mr mi) mi := by
  intro fu
  induction fu with
  | zero =>
    intro l1 l2 mi z h
    rw [b_X8_number_4] at h
    cases h
  | succ fu ih =>
    intro l1 l2 mi z h
    rw [b_X8_number_4] at h
    refine ev_iload_n dX8_number_4 rfl ?_
    refine ev_iconst (4 : Int32) dX8_number_5 (by decide) ?_
    refine ev_icmp_ge 52 dX8_number_6 (by decide) (fun c1 => ?_) (fun c1 => ?_)
    · replace h := bv_tt c1 h
      exact ev_weak (by exact And.intro rfl (And.intro rfl (And.intro rfl (trivial)))) (wb_X8_number_52  _ _ _ _ h)
    · replace h := bv_ff c1 h
      refine ev_aload_n dX8_number_9 rfl ?_
      obtain ⟨z1, hz1, h⟩ := bv_bd h
      refine er_VP [] (fun _ _ q => q) lk_X8_138 dX8_number_10 rfl rfl rfl rfl rfl (wm_X8_look  _ _ hz1) ?_
      refine ev_bipush (48 : Int32) dX8_number_13 (by decide) ?_
      refine ev_bipush (57 : Int32) dX8_number_15 (by decide) ?_
      obtain ⟨z2, hz2, h⟩ := bv_bd h
      refine er_SP [.int _, .int _, .int _] (fun _ _ q => q) lk_X8_47 dX8_number_17 rfl rfl rfl rfl (wm_X8_in _ _ _ _ _ hz2) ?_
      refine ev_if_eq 52 dX8_number_20 (by decide) (fun c2 => ?_) (fun c2 => ?_)
      · replace h := bv_tt c2 h
        exact ev_weak (by exact And.intro rfl (And.intro rfl (And.intro rfl (trivial)))) (wb_X8_number_52  _ _ _ _ h)
      · replace h := bv_ff c2 h
        refine ev_bipush (10 : Int32) dX8_number_23 (by decide) ?_
        refine ev_iload_n dX8_number_25 rfl ?_
        refine ev_imul dX8_number_26 ?_
        refine ev_aload_n dX8_number_27 rfl ?_
        obtain ⟨z3, hz3, h⟩ := bv_bd h
        refine er_VP [] (fun _ _ q => q) lk_X8_138 dX8_number_28 rfl rfl rfl rfl rfl (wm_X8_look  _ _ hz3) ?_
        refine ev_iadd dX8_number_31 ?_
        refine ev_bipush (48 : Int32) dX8_number_32 (by decide) ?_
        refine ev_isub dX8_number_34 ?_
        refine ev_istore_n dX8_number_35 rfl rfl ?_
        refine ev_aload_n dX8_number_36 rfl ?_
        refine ev_dup dX8_number_37 rfl ?_
        refine ev_getI lf_X8_128 dX8_number_38 rfl rfl ?_
        refine ev_iconst (1 : Int32) dX8_number_41 (by decide) ?_
        refine ev_iadd dX8_number_42 ?_
        refine er_putI lf_X8_128 dX8_number_43 rfl rfl rfl rfl ?_
        refine ev_iinc (l2 + 1) dX8_number_46 rfl rfl rfl rfl ?_
        refine ev_goto 4 dX8_number_49 (by decide) ?_
        exact ev_weak (by exact And.intro rfl (And.intro rfl (And.intro rfl (trivial)))) (ih _ _ _ _ h)
set_option maxRecDepth 100000 in
set_option maxHeartbeats 4000000 in
theorem we_X8_number    (mi : bv_Mem) (z : bv_Mem) (h : f_X8_number  mi = some z) : bv_Ev MX8_number bv_X0 1 74 74 (bv_QV z) 0 [some (.ref 61), none, none] [] 74 (bv_mr mi) mi := by
  unfold f_X8_number at h
  refine ev_iconst (0 : Int32) dX8_number_0 (by decide) ?_
  refine ev_istore_n dX8_number_1 rfl rfl ?_
  refine ev_iconst (0 : Int32) dX8_number_2 (by decide) ?_
  refine ev_istore_n dX8_number_3 rfl rfl ?_
  exact ev_weak (by exact And.intro rfl (And.intro rfl (And.intro rfl (trivial)))) (wb_X8_number_4  400 _ _ _ _ h)
theorem wm_X8_number    (mi : bv_Mem) (z : bv_Mem) (h : f_X8_number  mi = some z) : bv_Met yX8_number MX8_number bv_X0 1 74 74 [.ref 61] (bv_mr mi) mi (bv_QV z) :=
  bv_Met.of (pn_X 8 (by decide)) rfl (fun q => absurd q Bool.false_ne_true) (Nat.le_of_ble_eq_true rfl) (we_X8_number   mi z h)
set_option maxRecDepth 100000 in
set_option maxHeartbeats 4000000 in
theorem we_X8_one (r_X8_any : bv_Mem → Option (bv_Mem)) (r_X8_all : bv_Mem → Option (bv_Mem)) (r_X8_compares : bv_Mem → Option (bv_Mem)) (r_X8_sum : bv_Mem → Option (bv_Mem)) (r_X8_times : bv_Mem → Option (bv_Mem)) (r_X8_one : bv_Mem → Option (bv_Mem)) (r_X8_opens : Int32 → bv_Mem → Option (bv_Mem)) (d : Nat) (hb : 2 ≤ d) (hr_X8_any : ∀ (mi : bv_Mem) (z : bv_Mem), r_X8_any mi = some z → bv_Met yX8_any MX8_any bv_X0 d 74 74 [.ref 61] (bv_mr mi) mi (bv_QV z)) (hr_X8_all : ∀ (mi : bv_Mem) (z : bv_Mem), r_X8_all mi = some z → bv_Met yX8_all MX8_all bv_X0 d 74 74 [.ref 61] (bv_mr mi) mi (bv_QV z)) (hr_X8_compares : ∀ (mi : bv_Mem) (z : bv_Mem), r_X8_compares mi = some z → bv_Met yX8_compares MX8_compares bv_X0 d 74 74 [.ref 61] (bv_mr mi) mi (bv_QV z)) (hr_X8_sum : ∀ (mi : bv_Mem) (z : bv_Mem), r_X8_sum mi = some z → bv_Met yX8_sum MX8_sum bv_X0 d 74 74 [.ref 61] (bv_mr mi) mi (bv_QV z)) (hr_X8_times : ∀ (mi : bv_Mem) (z : bv_Mem), r_X8_times mi = some z → bv_Met yX8_times MX8_times bv_X0 d 74 74 [.ref 61] (bv_mr mi) mi (bv_QV z)) (hr_X8_one : ∀ (mi : bv_Mem) (z : bv_Mem), r_X8_one mi = some z → bv_Met yX8_one MX8_one bv_X0 d 74 74 [.ref 61] (bv_mr mi) mi (bv_QV z)) (hr_X8_opens : ∀ (l1 : Int32) (mi : bv_Mem) (z : bv_Mem), r_X8_opens l1 mi = some z → bv_Met yX8_opens MX8_opens bv_X0 d 74 74 [.ref 61, .int l1] (bv_mr mi) mi (bv_QV z))  (mi : bv_Mem) (z : bv_Mem) (h : F_X8_one r_X8_any r_X8_all r_X8_compares r_X8_sum r_X8_times r_X8_one r_X8_opens mi = some z) : bv_Ev MX8_one bv_X0 (d + 1) 74 74 (bv_QV z) 0 [some (.ref 61), none, none] [] 74 (bv_mr mi) mi := by
  unfold F_X8_one at h
  refine ev_aload_n dX8_one_0 rfl ?_
  obtain ⟨z1, hz1, h⟩ := bv_bd h
  refine er_VP [] (fun _ _ q => q) lk_X8_138 dX8_one_1 rfl rfl rfl (Nat.ble_eq.mpr (by omega)) rfl (wm_X8_look  _ _ hz1) ?_
  refine ev_istore_n dX8_one_4 rfl rfl ?_
  refine ev_aload_n dX8_one_5 rfl ?_
  refine ev_iload_n dX8_one_6 rfl ?_
  obtain ⟨z2, hz2, h⟩ := bv_bd h
  refine er_VP [.int _] (fun _ _ q => q) lk_X8_159 dX8_one_7 rfl rfl rfl (Nat.ble_eq.mpr (by omega)) rfl (wm_X8_nameOf _ _ _ hz2) ?_
  refine ev_istore_n dX8_one_10 rfl rfl ?_
  refine ev_iload_n dX8_one_11 rfl ?_
  refine ev_if_lt 34 dX8_one_12 (by decide) (fun c1 => ?_) (fun c1 => ?_)
  · replace h := bv_tt c1 h
    refine ev_iload_n dX8_one_34 rfl ?_
    refine ev_bipush (33 : Int32) dX8_one_35 (by decide) ?_
    refine ev_icmp_eq 46 dX8_one_37 (by decide) (fun c2 => ?_) (fun c2 => ?_)
    · replace h := bv_tt c2 h
      refine ev_aload_n dX8_one_46 rfl ?_
      refine ev_iload_n dX8_one_47 rfl ?_
      obtain ⟨z3, hz3, h⟩ := bv_bd h
      refine er_VV [.int _] (fun _ _ q => q) lk_X8_162 dX8_one_48 rfl rfl rfl (Nat.ble_eq.mpr (Nat.le_refl _)) rfl (hr_X8_opens _ _ _ hz3) ?_
      refine ev_goto 58 dX8_one_51 (by decide) ?_
      obtain rfl := Option.some.inj h
      exact ev_vret rfl dX8_one_58 ⟨rfl, rfl, rfl⟩
    · replace h := bv_ff c2 h
      refine ev_iload_n dX8_one_40 rfl ?_
      refine ev_bipush (40 : Int32) dX8_one_41 (by decide) ?_
      refine ev_icmp_ne 54 dX8_one_43 (by decide) (fun c3 => ?_) (fun c3 => ?_)
      · replace h := bv_ff c3 h
        refine ev_aload_n dX8_one_54 rfl ?_
        obtain ⟨z4, hz4, h⟩ := bv_bd h
        refine er_VV [] (fun _ _ q => q) lk_X8_166 dX8_one_55 rfl rfl rfl (Nat.ble_eq.mpr (by omega)) rfl (wm_X8_number  _ _ hz4) ?_
        obtain rfl := Option.some.inj h
        exact ev_vret rfl dX8_one_58 ⟨rfl, rfl, rfl⟩
      · replace h := bv_tt c3 h
        refine ev_aload_n dX8_one_46 rfl ?_
        refine ev_iload_n dX8_one_47 rfl ?_
        obtain ⟨z5, hz5, h⟩ := bv_bd h
        refine er_VV [.int _] (fun _ _ q => q) lk_X8_162 dX8_one_48 rfl rfl rfl (Nat.ble_eq.mpr (Nat.le_refl _)) rfl (hr_X8_opens _ _ _ hz5) ?_
        refine ev_goto 58 dX8_one_51 (by decide) ?_
        obtain rfl := Option.some.inj h
        exact ev_vret rfl dX8_one_58 ⟨rfl, rfl, rfl⟩
  · replace h := bv_ff c1 h
    refine ev_aload_n dX8_one_15 rfl ?_
    refine ev_dup dX8_one_16 rfl ?_
    refine ev_getI lf_X8_128 dX8_one_17 rfl rfl ?_
    refine ev_iconst (1 : Int32) dX8_one_20 (by decide) ?_
    refine ev_iadd dX8_one_21 ?_
    refine er_putI lf_X8_128 dX8_one_22 rfl rfl rfl rfl ?_
    refine ev_aload_n dX8_one_25 rfl ?_
    refine ev_iconst (2 : Int32) dX8_one_26 (by decide) ?_
    refine ev_iload_n dX8_one_27 rfl ?_
    obtain ⟨z6, hz6, h⟩ := bv_bd h
    refine er_VV [.int _, .int _] (fun _ _ q => q) lk_X8_146 dX8_one_28 rfl rfl rfl (Nat.ble_eq.mpr (by omega)) rfl (wm_X8_step _ _ _ _ hz6) ?_
    refine ev_goto 58 dX8_one_31 (by decide) ?_
    obtain rfl := Option.some.inj h
    exact ev_vret rfl dX8_one_58 ⟨rfl, rfl, rfl⟩
theorem wm_X8_one (r_X8_any : bv_Mem → Option (bv_Mem)) (r_X8_all : bv_Mem → Option (bv_Mem)) (r_X8_compares : bv_Mem → Option (bv_Mem)) (r_X8_sum : bv_Mem → Option (bv_Mem)) (r_X8_times : bv_Mem → Option (bv_Mem)) (r_X8_one : bv_Mem → Option (bv_Mem)) (r_X8_opens : Int32 → bv_Mem → Option (bv_Mem)) (d : Nat) (hb : 2 ≤ d) (hr_X8_any : ∀ (mi : bv_Mem) (z : bv_Mem), r_X8_any mi = some z → bv_Met yX8_any MX8_any bv_X0 d 74 74 [.ref 61] (bv_mr mi) mi (bv_QV z)) (hr_X8_all : ∀ (mi : bv_Mem) (z : bv_Mem), r_X8_all mi = some z → bv_Met yX8_all MX8_all bv_X0 d 74 74 [.ref 61] (bv_mr mi) mi (bv_QV z)) (hr_X8_compares : ∀ (mi : bv_Mem) (z : bv_Mem), r_X8_compares mi = some z → bv_Met yX8_compares MX8_compares bv_X0 d 74 74 [.ref 61] (bv_mr mi) mi (bv_QV z)) (hr_X8_sum : ∀ (mi : bv_Mem) (z : bv_Mem), r_X8_sum mi = some z → bv_Met yX8_sum MX8_sum bv_X0 d 74 74 [.ref 61] (bv_mr mi) mi (bv_QV z)) (hr_X8_times : ∀ (mi : bv_Mem) (z : bv_Mem), r_X8_times mi = some z → bv_Met yX8_times MX8_times bv_X0 d 74 74 [.ref 61] (bv_mr mi) mi (bv_QV z)) (hr_X8_one : ∀ (mi : bv_Mem) (z : bv_Mem), r_X8_one mi = some z → bv_Met yX8_one MX8_one bv_X0 d 74 74 [.ref 61] (bv_mr mi) mi (bv_QV z)) (hr_X8_opens : ∀ (l1 : Int32) (mi : bv_Mem) (z : bv_Mem), r_X8_opens l1 mi = some z → bv_Met yX8_opens MX8_opens bv_X0 d 74 74 [.ref 61, .int l1] (bv_mr mi) mi (bv_QV z))  (mi : bv_Mem) (z : bv_Mem) (h : F_X8_one r_X8_any r_X8_all r_X8_compares r_X8_sum r_X8_times r_X8_one r_X8_opens mi = some z) : bv_Met yX8_one MX8_one bv_X0 (d + 1) 74 74 [.ref 61] (bv_mr mi) mi (bv_QV z) :=
  bv_Met.of (pn_X 8 (by decide)) rfl (fun q => absurd q Bool.false_ne_true) (Nat.le_of_ble_eq_true rfl) (we_X8_one r_X8_any r_X8_all r_X8_compares r_X8_sum r_X8_times r_X8_one r_X8_opens d hb hr_X8_any hr_X8_all hr_X8_compares hr_X8_sum hr_X8_times hr_X8_one hr_X8_opens mi z h)
set_option maxRecDepth 100000 in
set_option maxHeartbeats 4000000 in
theorem wb_X8_opens_79 (r_X8_any : bv_Mem → Option (bv_Mem)) (r_X8_all : bv_Mem → Option (bv_Mem)) (r_X8_compares : bv_Mem → Option (bv_Mem)) (r_X8_sum : bv_Mem → Option (bv_Mem)) (r_X8_times : bv_Mem → Option (bv_Mem)) (r_X8_one : bv_Mem → Option (bv_Mem)) (r_X8_opens : Int32 → bv_Mem → Option (bv_Mem)) (d : Nat) (hb : 2 ≤ d) (hr_X8_any : ∀ (mi : bv_Mem) (z : bv_Mem), r_X8_any mi = some z → bv_Met yX8_any MX8_any bv_X0 d 74 74 [.ref 61] (bv_mr mi) mi (bv_QV z)) (hr_X8_all : ∀ (mi : bv_Mem) (z : bv_Mem), r_X8_all mi = some z → bv_Met yX8_all MX8_all bv_X0 d 74 74 [.ref 61] (bv_mr mi) mi (bv_QV z)) (hr_X8_compares : ∀ (mi : bv_Mem) (z : bv_Mem), r_X8_compares mi = some z → bv_Met yX8_compares MX8_compares bv_X0 d 74 74 [.ref 61] (bv_mr mi) mi (bv_QV z)) (hr_X8_sum : ∀ (mi : bv_Mem) (z : bv_Mem), r_X8_sum mi = some z → bv_Met yX8_sum MX8_sum bv_X0 d 74 74 [.ref 61] (bv_mr mi) mi (bv_QV z)) (hr_X8_times : ∀ (mi : bv_Mem) (z : bv_Mem), r_X8_times mi = some z → bv_Met yX8_times MX8_times bv_X0 d 74 74 [.ref 61] (bv_mr mi) mi (bv_QV z)) (hr_X8_one : ∀ (mi : bv_Mem) (z : bv_Mem), r_X8_one mi = some z → bv_Met yX8_one MX8_one bv_X0 d 74 74 [.ref 61] (bv_mr mi) mi (bv_QV z)) (hr_X8_opens : ∀ (l1 : Int32) (mi : bv_Mem) (z : bv_Mem), r_X8_opens l1 mi = some z → bv_Met yX8_opens MX8_opens bv_X0 d 74 74 [.ref 61, .int l1] (bv_mr mi) mi (bv_QV z)) (s1 : Int32) (mi : bv_Mem) (z : bv_Mem) (h : b_X8_opens_79 r_X8_any r_X8_all r_X8_compares r_X8_sum r_X8_times r_X8_one r_X8_opens s1 mi = some z) : bv_Ev MX8_opens bv_X0 (d + 1) 74 74 (bv_QV z) 79 [some (.ref 61), none] [.int s1, .ref 61] 74 (bv_mr mi) mi := by
  unfold b_X8_opens_79 at h
  obtain ⟨g1, h⟩ := bv_gd h
  refine er_putI lf_X8_142 dX8_opens_79 rfl rfl rfl g1 ?_
  refine ev_aload_n dX8_opens_82 rfl ?_
  refine ev_dup dX8_opens_83 rfl ?_
  refine ev_getI lf_X8_128 dX8_opens_84 rfl rfl ?_
  refine ev_aload_n dX8_opens_87 rfl ?_
  refine ev_getI lf_X8_142 dX8_opens_88 rfl rfl ?_
  refine ev_if_eq 98 dX8_opens_91 (by decide) (fun c1 => ?_) (fun c1 => ?_)
  · replace h := bv_tt c1 h
    refine ev_iconst (1 : Int32) dX8_opens_98 (by decide) ?_
    refine ev_iadd dX8_opens_99 ?_
    refine er_putI lf_X8_128 dX8_opens_100 rfl rfl rfl rfl ?_
    refine ev_aload_n dX8_opens_103 rfl ?_
    refine ev_dup dX8_opens_104 rfl ?_
    refine ev_getI lf_X8_150 dX8_opens_105 rfl rfl ?_
    refine ev_iconst (1 : Int32) dX8_opens_108 (by decide) ?_
    refine ev_isub dX8_opens_109 ?_
    refine er_putI lf_X8_150 dX8_opens_110 rfl rfl rfl rfl ?_
    obtain rfl := Option.some.inj h
    exact ev_vret rfl dX8_opens_113 ⟨rfl, rfl, rfl⟩
  · replace h := bv_ff c1 h
    refine ev_iconst (0 : Int32) dX8_opens_94 (by decide) ?_
    refine ev_goto 99 dX8_opens_95 (by decide) ?_
    refine ev_iadd dX8_opens_99 ?_
    refine er_putI lf_X8_128 dX8_opens_100 rfl rfl rfl rfl ?_
    refine ev_aload_n dX8_opens_103 rfl ?_
    refine ev_dup dX8_opens_104 rfl ?_
    refine ev_getI lf_X8_150 dX8_opens_105 rfl rfl ?_
    refine ev_iconst (1 : Int32) dX8_opens_108 (by decide) ?_
    refine ev_isub dX8_opens_109 ?_
    refine er_putI lf_X8_150 dX8_opens_110 rfl rfl rfl rfl ?_
    obtain rfl := Option.some.inj h
    exact ev_vret rfl dX8_opens_113 ⟨rfl, rfl, rfl⟩
set_option maxRecDepth 100000 in
set_option maxHeartbeats 4000000 in
theorem wb_X8_opens_74 (r_X8_any : bv_Mem → Option (bv_Mem)) (r_X8_all : bv_Mem → Option (bv_Mem)) (r_X8_compares : bv_Mem → Option (bv_Mem)) (r_X8_sum : bv_Mem → Option (bv_Mem)) (r_X8_times : bv_Mem → Option (bv_Mem)) (r_X8_one : bv_Mem → Option (bv_Mem)) (r_X8_opens : Int32 → bv_Mem → Option (bv_Mem)) (d : Nat) (hb : 2 ≤ d) (hr_X8_any : ∀ (mi : bv_Mem) (z : bv_Mem), r_X8_any mi = some z → bv_Met yX8_any MX8_any bv_X0 d 74 74 [.ref 61] (bv_mr mi) mi (bv_QV z)) (hr_X8_all : ∀ (mi : bv_Mem) (z : bv_Mem), r_X8_all mi = some z → bv_Met yX8_all MX8_all bv_X0 d 74 74 [.ref 61] (bv_mr mi) mi (bv_QV z)) (hr_X8_compares : ∀ (mi : bv_Mem) (z : bv_Mem), r_X8_compares mi = some z → bv_Met yX8_compares MX8_compares bv_X0 d 74 74 [.ref 61] (bv_mr mi) mi (bv_QV z)) (hr_X8_sum : ∀ (mi : bv_Mem) (z : bv_Mem), r_X8_sum mi = some z → bv_Met yX8_sum MX8_sum bv_X0 d 74 74 [.ref 61] (bv_mr mi) mi (bv_QV z)) (hr_X8_times : ∀ (mi : bv_Mem) (z : bv_Mem), r_X8_times mi = some z → bv_Met yX8_times MX8_times bv_X0 d 74 74 [.ref 61] (bv_mr mi) mi (bv_QV z)) (hr_X8_one : ∀ (mi : bv_Mem) (z : bv_Mem), r_X8_one mi = some z → bv_Met yX8_one MX8_one bv_X0 d 74 74 [.ref 61] (bv_mr mi) mi (bv_QV z)) (hr_X8_opens : ∀ (l1 : Int32) (mi : bv_Mem) (z : bv_Mem), r_X8_opens l1 mi = some z → bv_Met yX8_opens MX8_opens bv_X0 d 74 74 [.ref 61, .int l1] (bv_mr mi) mi (bv_QV z)) (mi : bv_Mem) (z : bv_Mem) (h : b_X8_opens_74 r_X8_any r_X8_all r_X8_compares r_X8_sum r_X8_times r_X8_one r_X8_opens mi = some z) : bv_Ev MX8_opens bv_X0 (d + 1) 74 74 (bv_QV z) 74 [some (.ref 61), none] [.ref 61] 74 (bv_mr mi) mi := by
  unfold b_X8_opens_74 at h
  refine ev_iconst (1 : Int32) dX8_opens_74 (by decide) ?_
  refine ev_goto 79 dX8_opens_75 (by decide) ?_
  exact ev_weak (by exact And.intro rfl (trivial)) (wb_X8_opens_79 r_X8_any r_X8_all r_X8_compares r_X8_sum r_X8_times r_X8_one r_X8_opens d hb hr_X8_any hr_X8_all hr_X8_compares hr_X8_sum hr_X8_times hr_X8_one hr_X8_opens _ _ _ h)
set_option maxRecDepth 100000 in
set_option maxHeartbeats 4000000 in
theorem we_X8_opens (r_X8_any : bv_Mem → Option (bv_Mem)) (r_X8_all : bv_Mem → Option (bv_Mem)) (r_X8_compares : bv_Mem → Option (bv_Mem)) (r_X8_sum : bv_Mem → Option (bv_Mem)) (r_X8_times : bv_Mem → Option (bv_Mem)) (r_X8_one : bv_Mem → Option (bv_Mem)) (r_X8_opens : Int32 → bv_Mem → Option (bv_Mem)) (d : Nat) (hb : 2 ≤ d) (hr_X8_any : ∀ (mi : bv_Mem) (z : bv_Mem), r_X8_any mi = some z → bv_Met yX8_any MX8_any bv_X0 d 74 74 [.ref 61] (bv_mr mi) mi (bv_QV z)) (hr_X8_all : ∀ (mi : bv_Mem) (z : bv_Mem), r_X8_all mi = some z → bv_Met yX8_all MX8_all bv_X0 d 74 74 [.ref 61] (bv_mr mi) mi (bv_QV z)) (hr_X8_compares : ∀ (mi : bv_Mem) (z : bv_Mem), r_X8_compares mi = some z → bv_Met yX8_compares MX8_compares bv_X0 d 74 74 [.ref 61] (bv_mr mi) mi (bv_QV z)) (hr_X8_sum : ∀ (mi : bv_Mem) (z : bv_Mem), r_X8_sum mi = some z → bv_Met yX8_sum MX8_sum bv_X0 d 74 74 [.ref 61] (bv_mr mi) mi (bv_QV z)) (hr_X8_times : ∀ (mi : bv_Mem) (z : bv_Mem), r_X8_times mi = some z → bv_Met yX8_times MX8_times bv_X0 d 74 74 [.ref 61] (bv_mr mi) mi (bv_QV z)) (hr_X8_one : ∀ (mi : bv_Mem) (z : bv_Mem), r_X8_one mi = some z → bv_Met yX8_one MX8_one bv_X0 d 74 74 [.ref 61] (bv_mr mi) mi (bv_QV z)) (hr_X8_opens : ∀ (l1 : Int32) (mi : bv_Mem) (z : bv_Mem), r_X8_opens l1 mi = some z → bv_Met yX8_opens MX8_opens bv_X0 d 74 74 [.ref 61, .int l1] (bv_mr mi) mi (bv_QV z)) (l1 : Int32) (mi : bv_Mem) (z : bv_Mem) (h : F_X8_opens r_X8_any r_X8_all r_X8_compares r_X8_sum r_X8_times r_X8_one r_X8_opens l1 mi = some z) : bv_Ev MX8_opens bv_X0 (d + 1) 74 74 (bv_QV z) 0 [some (.ref 61), some (.int l1)] [] 74 (bv_mr mi) mi := by
  unfold F_X8_opens at h
  refine ev_aload_n dX8_opens_0 rfl ?_
  refine ev_getI lf_X8_150 dX8_opens_1 rfl rfl ?_
  refine ev_iconst (5 : Int32) dX8_opens_4 (by decide) ?_
  refine ev_icmp_ne 14 dX8_opens_5 (by decide) (fun c1 => ?_) (fun c1 => ?_)
  · replace h := bv_ff c1 h
    refine ev_aload_n dX8_opens_14 rfl ?_
    refine ev_dup dX8_opens_15 rfl ?_
    refine ev_getI lf_X8_150 dX8_opens_16 rfl rfl ?_
    refine ev_iconst (1 : Int32) dX8_opens_19 (by decide) ?_
    refine ev_iadd dX8_opens_20 ?_
    refine er_putI lf_X8_150 dX8_opens_21 rfl rfl rfl rfl ?_
    refine ev_aload_n dX8_opens_24 rfl ?_
    refine ev_dup dX8_opens_25 rfl ?_
    refine ev_getI lf_X8_128 dX8_opens_26 rfl rfl ?_
    refine ev_iconst (1 : Int32) dX8_opens_29 (by decide) ?_
    refine ev_iadd dX8_opens_30 ?_
    refine er_putI lf_X8_128 dX8_opens_31 rfl rfl rfl rfl ?_
    refine ev_iload_n dX8_opens_34 rfl ?_
    refine ev_bipush (33 : Int32) dX8_opens_35 (by decide) ?_
    refine ev_icmp_ne 53 dX8_opens_37 (by decide) (fun c2 => ?_) (fun c2 => ?_)
    · replace h := bv_ff c2 h
      refine ev_aload_n dX8_opens_53 rfl ?_
      obtain ⟨z1, hz1, h⟩ := bv_bd h
      refine er_VV [] (fun _ _ q => q) lk_X8_156 dX8_opens_54 rfl rfl rfl (Nat.ble_eq.mpr (Nat.le_refl _)) rfl (hr_X8_any  _ _ hz1) ?_
      refine ev_aload_n dX8_opens_57 rfl ?_
      refine ev_aload_n dX8_opens_58 rfl ?_
      refine ev_getI lf_X8_142 dX8_opens_59 rfl rfl ?_
      refine ev_if_ne 74 dX8_opens_62 (by decide) (fun c3 => ?_) (fun c3 => ?_)
      · replace h := bv_ff c3 h
        exact ev_weak (by exact And.intro rfl (trivial)) (wb_X8_opens_74 r_X8_any r_X8_all r_X8_compares r_X8_sum r_X8_times r_X8_one r_X8_opens d hb hr_X8_any hr_X8_all hr_X8_compares hr_X8_sum hr_X8_times hr_X8_one hr_X8_opens _ _ h)
      · replace h := bv_tt c3 h
        refine ev_aload_n dX8_opens_65 rfl ?_
        obtain ⟨z2, hz2, h⟩ := bv_bd h
        refine er_VP [] (fun _ _ q => q) lk_X8_138 dX8_opens_66 rfl rfl rfl (Nat.ble_eq.mpr (by omega)) rfl (wm_X8_look  _ _ hz2) ?_
        refine ev_bipush (41 : Int32) dX8_opens_69 (by decide) ?_
        refine ev_icmp_eq 78 dX8_opens_71 (by decide) (fun c4 => ?_) (fun c4 => ?_)
        · replace h := bv_tt c4 h
          refine ev_iconst (0 : Int32) dX8_opens_78 (by decide) ?_
          exact ev_weak (by exact And.intro rfl (trivial)) (wb_X8_opens_79 r_X8_any r_X8_all r_X8_compares r_X8_sum r_X8_times r_X8_one r_X8_opens d hb hr_X8_any hr_X8_all hr_X8_compares hr_X8_sum hr_X8_times hr_X8_one hr_X8_opens _ _ _ h)
        · replace h := bv_ff c4 h
          exact ev_weak (by exact And.intro rfl (trivial)) (wb_X8_opens_74 r_X8_any r_X8_all r_X8_compares r_X8_sum r_X8_times r_X8_one r_X8_opens d hb hr_X8_any hr_X8_all hr_X8_compares hr_X8_sum hr_X8_times hr_X8_one hr_X8_opens _ _ h)
    · replace h := bv_tt c2 h
      refine ev_aload_n dX8_opens_40 rfl ?_
      obtain ⟨z3, hz3, h⟩ := bv_bd h
      refine er_VV [] (fun _ _ q => q) lk_X8_153 dX8_opens_41 rfl rfl rfl (Nat.ble_eq.mpr (Nat.le_refl _)) rfl (hr_X8_one  _ _ hz3) ?_
      refine ev_aload_n dX8_opens_44 rfl ?_
      refine ev_iconst (3 : Int32) dX8_opens_45 (by decide) ?_
      refine ev_iconst (0 : Int32) dX8_opens_46 (by decide) ?_
      obtain ⟨z4, hz4, h⟩ := bv_bd h
      refine er_VV [.int _, .int _] (fun _ _ q => q) lk_X8_146 dX8_opens_47 rfl rfl rfl (Nat.ble_eq.mpr (by omega)) rfl (wm_X8_step _ _ _ _ hz4) ?_
      refine ev_goto 103 dX8_opens_50 (by decide) ?_
      refine ev_aload_n dX8_opens_103 rfl ?_
      refine ev_dup dX8_opens_104 rfl ?_
      refine ev_getI lf_X8_150 dX8_opens_105 rfl rfl ?_
      refine ev_iconst (1 : Int32) dX8_opens_108 (by decide) ?_
      refine ev_isub dX8_opens_109 ?_
      refine er_putI lf_X8_150 dX8_opens_110 rfl rfl rfl rfl ?_
      obtain rfl := Option.some.inj h
      exact ev_vret rfl dX8_opens_113 ⟨rfl, rfl, rfl⟩
  · replace h := bv_tt c1 h
    refine ev_aload_n dX8_opens_8 rfl ?_
    refine ev_iconst (1 : Int32) dX8_opens_9 (by decide) ?_
    refine er_putI lf_X8_142 dX8_opens_10 rfl rfl rfl rfl ?_
    obtain rfl := Option.some.inj h
    exact ev_vret rfl dX8_opens_13 ⟨rfl, rfl, rfl⟩
theorem wm_X8_opens (r_X8_any : bv_Mem → Option (bv_Mem)) (r_X8_all : bv_Mem → Option (bv_Mem)) (r_X8_compares : bv_Mem → Option (bv_Mem)) (r_X8_sum : bv_Mem → Option (bv_Mem)) (r_X8_times : bv_Mem → Option (bv_Mem)) (r_X8_one : bv_Mem → Option (bv_Mem)) (r_X8_opens : Int32 → bv_Mem → Option (bv_Mem)) (d : Nat) (hb : 2 ≤ d) (hr_X8_any : ∀ (mi : bv_Mem) (z : bv_Mem), r_X8_any mi = some z → bv_Met yX8_any MX8_any bv_X0 d 74 74 [.ref 61] (bv_mr mi) mi (bv_QV z)) (hr_X8_all : ∀ (mi : bv_Mem) (z : bv_Mem), r_X8_all mi = some z → bv_Met yX8_all MX8_all bv_X0 d 74 74 [.ref 61] (bv_mr mi) mi (bv_QV z)) (hr_X8_compares : ∀ (mi : bv_Mem) (z : bv_Mem), r_X8_compares mi = some z → bv_Met yX8_compares MX8_compares bv_X0 d 74 74 [.ref 61] (bv_mr mi) mi (bv_QV z)) (hr_X8_sum : ∀ (mi : bv_Mem) (z : bv_Mem), r_X8_sum mi = some z → bv_Met yX8_sum MX8_sum bv_X0 d 74 74 [.ref 61] (bv_mr mi) mi (bv_QV z)) (hr_X8_times : ∀ (mi : bv_Mem) (z : bv_Mem), r_X8_times mi = some z → bv_Met yX8_times MX8_times bv_X0 d 74 74 [.ref 61] (bv_mr mi) mi (bv_QV z)) (hr_X8_one : ∀ (mi : bv_Mem) (z : bv_Mem), r_X8_one mi = some z → bv_Met yX8_one MX8_one bv_X0 d 74 74 [.ref 61] (bv_mr mi) mi (bv_QV z)) (hr_X8_opens : ∀ (l1 : Int32) (mi : bv_Mem) (z : bv_Mem), r_X8_opens l1 mi = some z → bv_Met yX8_opens MX8_opens bv_X0 d 74 74 [.ref 61, .int l1] (bv_mr mi) mi (bv_QV z)) (l1 : Int32) (mi : bv_Mem) (z : bv_Mem) (h : F_X8_opens r_X8_any r_X8_all r_X8_compares r_X8_sum r_X8_times r_X8_one r_X8_opens l1 mi = some z) : bv_Met yX8_opens MX8_opens bv_X0 (d + 1) 74 74 [.ref 61, .int l1] (bv_mr mi) mi (bv_QV z) :=
  bv_Met.of (pn_X 8 (by decide)) rfl (fun q => absurd q Bool.false_ne_true) (Nat.le_of_ble_eq_true rfl) (we_X8_opens r_X8_any r_X8_all r_X8_compares r_X8_sum r_X8_times r_X8_one r_X8_opens d hb hr_X8_any hr_X8_all hr_X8_compares hr_X8_sum hr_X8_times hr_X8_one hr_X8_opens l1 mi z h)
theorem wG_X8 : ∀ n : Nat, (∀ (mi : bv_Mem) (z : bv_Mem), (G_X8 n).1 mi = some z → bv_Met yX8_any MX8_any bv_X0 (2 + n) 74 74 [.ref 61] (bv_mr mi) mi (bv_QV z)) ∧ (∀ (mi : bv_Mem) (z : bv_Mem), (G_X8 n).2.1 mi = some z → bv_Met yX8_all MX8_all bv_X0 (2 + n) 74 74 [.ref 61] (bv_mr mi) mi (bv_QV z)) ∧ (∀ (mi : bv_Mem) (z : bv_Mem), (G_X8 n).2.2.1 mi = some z → bv_Met yX8_compares MX8_compares bv_X0 (2 + n) 74 74 [.ref 61] (bv_mr mi) mi (bv_QV z)) ∧ (∀ (mi : bv_Mem) (z : bv_Mem), (G_X8 n).2.2.2.1 mi = some z → bv_Met yX8_sum MX8_sum bv_X0 (2 + n) 74 74 [.ref 61] (bv_mr mi) mi (bv_QV z)) ∧ (∀ (mi : bv_Mem) (z : bv_Mem), (G_X8 n).2.2.2.2.1 mi = some z → bv_Met yX8_times MX8_times bv_X0 (2 + n) 74 74 [.ref 61] (bv_mr mi) mi (bv_QV z)) ∧ (∀ (mi : bv_Mem) (z : bv_Mem), (G_X8 n).2.2.2.2.2.1 mi = some z → bv_Met yX8_one MX8_one bv_X0 (2 + n) 74 74 [.ref 61] (bv_mr mi) mi (bv_QV z)) ∧ (∀ (l1 : Int32) (mi : bv_Mem) (z : bv_Mem), (G_X8 n).2.2.2.2.2.2 l1 mi = some z → bv_Met yX8_opens MX8_opens bv_X0 (2 + n) 74 74 [.ref 61, .int l1] (bv_mr mi) mi (bv_QV z)) := by
  intro n
  induction n with
  | zero => exact ⟨fun _ z h => absurd h (by simp [G_X8]), fun _ z h => absurd h (by simp [G_X8]), fun _ z h => absurd h (by simp [G_X8]), fun _ z h => absurd h (by simp [G_X8]), fun _ z h => absurd h (by simp [G_X8]), fun _ z h => absurd h (by simp [G_X8]), fun _ _ z h => absurd h (by simp [G_X8])⟩
  | succ n ih => exact ⟨fun mi z h => wm_X8_any (G_X8 n).1 (G_X8 n).2.1 (G_X8 n).2.2.1 (G_X8 n).2.2.2.1 (G_X8 n).2.2.2.2.1 (G_X8 n).2.2.2.2.2.1 (G_X8 n).2.2.2.2.2.2 (2 + n) (Nat.le_add_right _ _) ih.1 ih.2.1 ih.2.2.1 ih.2.2.2.1 ih.2.2.2.2.1 ih.2.2.2.2.2.1 ih.2.2.2.2.2.2 mi z h, fun mi z h => wm_X8_all (G_X8 n).1 (G_X8 n).2.1 (G_X8 n).2.2.1 (G_X8 n).2.2.2.1 (G_X8 n).2.2.2.2.1 (G_X8 n).2.2.2.2.2.1 (G_X8 n).2.2.2.2.2.2 (2 + n) (Nat.le_add_right _ _) ih.1 ih.2.1 ih.2.2.1 ih.2.2.2.1 ih.2.2.2.2.1 ih.2.2.2.2.2.1 ih.2.2.2.2.2.2 mi z h, fun mi z h => wm_X8_compares (G_X8 n).1 (G_X8 n).2.1 (G_X8 n).2.2.1 (G_X8 n).2.2.2.1 (G_X8 n).2.2.2.2.1 (G_X8 n).2.2.2.2.2.1 (G_X8 n).2.2.2.2.2.2 (2 + n) (Nat.le_add_right _ _) ih.1 ih.2.1 ih.2.2.1 ih.2.2.2.1 ih.2.2.2.2.1 ih.2.2.2.2.2.1 ih.2.2.2.2.2.2 mi z h, fun mi z h => wm_X8_sum (G_X8 n).1 (G_X8 n).2.1 (G_X8 n).2.2.1 (G_X8 n).2.2.2.1 (G_X8 n).2.2.2.2.1 (G_X8 n).2.2.2.2.2.1 (G_X8 n).2.2.2.2.2.2 (2 + n) (Nat.le_add_right _ _) ih.1 ih.2.1 ih.2.2.1 ih.2.2.2.1 ih.2.2.2.2.1 ih.2.2.2.2.2.1 ih.2.2.2.2.2.2 mi z h, fun mi z h => wm_X8_times (G_X8 n).1 (G_X8 n).2.1 (G_X8 n).2.2.1 (G_X8 n).2.2.2.1 (G_X8 n).2.2.2.2.1 (G_X8 n).2.2.2.2.2.1 (G_X8 n).2.2.2.2.2.2 (2 + n) (Nat.le_add_right _ _) ih.1 ih.2.1 ih.2.2.1 ih.2.2.2.1 ih.2.2.2.2.1 ih.2.2.2.2.2.1 ih.2.2.2.2.2.2 mi z h, fun mi z h => wm_X8_one (G_X8 n).1 (G_X8 n).2.1 (G_X8 n).2.2.1 (G_X8 n).2.2.2.1 (G_X8 n).2.2.2.2.1 (G_X8 n).2.2.2.2.2.1 (G_X8 n).2.2.2.2.2.2 (2 + n) (Nat.le_add_right _ _) ih.1 ih.2.1 ih.2.2.1 ih.2.2.2.1 ih.2.2.2.2.1 ih.2.2.2.2.2.1 ih.2.2.2.2.2.2 mi z h, fun l1 mi z h => wm_X8_opens (G_X8 n).1 (G_X8 n).2.1 (G_X8 n).2.2.1 (G_X8 n).2.2.2.1 (G_X8 n).2.2.2.2.1 (G_X8 n).2.2.2.2.2.1 (G_X8 n).2.2.2.2.2.2 (2 + n) (Nat.le_add_right _ _) ih.1 ih.2.1 ih.2.2.1 ih.2.2.2.1 ih.2.2.2.2.1 ih.2.2.2.2.2.1 ih.2.2.2.2.2.2 l1 mi z h⟩
set_option maxRecDepth 100000 in
set_option maxHeartbeats 4000000 in
theorem wb_X8_text_117  : ∀ (fu : Nat) (l2 : Int32) (l3 : Int32) (mi : bv_Mem) (z : Int32 × bv_Mem), b_X8_text_117 fu l2 l3 mi = some z → bv_Ev MX8_text bv_X0 63 74 74 (bv_QI z) 117 [some (.ref 61), none, some (.int l2), some (.int l3)] [] 74 (bv_mr mi) mi := by
  intro fu
  induction fu with
  | zero =>
    intro l2 l3 mi z h
    rw [b_X8_text_117] at h
    cases h
  | succ fu ih =>
    intro l2 l3 mi z h
    rw [b_X8_text_117] at h
    refine ev_iload_n dX8_text_117 rfl ?_
    refine ev_aload_n dX8_text_118 rfl ?_
    refine ev_getI lf_X8_132 dX8_text_119 rfl rfl ?_
    refine ev_icmp_ge 164 dX8_text_122 (by decide) (fun c1 => ?_) (fun c1 => ?_)
    · replace h := bv_tt c1 h
      refine ev_iconst (1 : Int32) dX8_text_164 (by decide) ?_
      obtain rfl := Option.some.inj h
      exact ev_iret rfl dX8_text_165 ⟨rfl, rfl, rfl⟩
    · replace h := bv_ff c1 h
      refine ev_aload_n dX8_text_125 rfl ?_
      refine ev_getR 62 lf_X8_9 dX8_text_126 rfl rfl rfl ?_
      refine ev_iload_n dX8_text_129 rfl ?_
      refine ev_iconst (1 : Int32) dX8_text_130 (by decide) ?_
      refine ev_iadd dX8_text_131 ?_
      refine ev_iload_n dX8_text_132 rfl ?_
      refine ev_iadd dX8_text_133 ?_
      refine ev_aload_n dX8_text_134 rfl ?_
      refine ev_getR 66 lf_X8_22 dX8_text_135 rfl rfl rfl ?_
      refine ev_iload_n dX8_text_138 rfl ?_
      obtain ⟨g1, h⟩ := bv_gd h
      refine ev_iald (N := 50) dX8_text_139 rfl g1 ?_
      obtain ⟨g2, h⟩ := bv_gd h
      refine er_iast (N := 371) dX8_text_140 rfl g2 ?_
      refine ev_aload_n dX8_text_141 rfl ?_
      refine ev_getR 62 lf_X8_9 dX8_text_142 rfl rfl rfl ?_
      refine ev_iload_n dX8_text_145 rfl ?_
      refine ev_bipush (51 : Int32) dX8_text_146 (by decide) ?_
      refine ev_iadd dX8_text_148 ?_
      refine ev_iload_n dX8_text_149 rfl ?_
      refine ev_iadd dX8_text_150 ?_
      refine ev_aload_n dX8_text_151 rfl ?_
      refine ev_getR 67 lf_X8_25 dX8_text_152 rfl rfl rfl ?_
      refine ev_iload_n dX8_text_155 rfl ?_
      refine ev_iald (N := 50) dX8_text_156 rfl g1 ?_
      obtain ⟨g3, h⟩ := bv_gd h
      refine er_iast (N := 371) dX8_text_157 rfl g3 ?_
      refine ev_iinc (l3 + 1) dX8_text_158 rfl rfl rfl rfl ?_
      refine ev_goto 117 dX8_text_161 (by decide) ?_
      exact ev_weak (by exact And.intro rfl (And.intro rfl (And.intro rfl (trivial)))) (ih _ _ _ _ h)
set_option maxRecDepth 100000 in
set_option maxHeartbeats 4000000 in
theorem wb_X8_text_71  (l1 : Int32) (s1 : Int32) (mi : bv_Mem) (z : Int32 × bv_Mem) (h : b_X8_text_71 l1 s1 mi = some z) : bv_Ev MX8_text bv_X0 63 74 74 (bv_QI z) 71 [some (.ref 61), some (.int l1), none, none] [.int s1, .ref 61] 74 (bv_mr mi) mi := by
  unfold b_X8_text_71 at h
  obtain ⟨g1, h⟩ := bv_gd h
  refine er_putI lf_X8_142 dX8_text_71 rfl rfl rfl g1 ?_
  refine ev_aload_n dX8_text_74 rfl ?_
  refine ev_getR 62 lf_X8_9 dX8_text_75 rfl rfl rfl ?_
  refine ev_iconst (4 : Int32) dX8_text_78 (by decide) ?_
  refine ev_iconst (0 : Int32) dX8_text_79 (by decide) ?_
  refine er_iastk (N := 371) 4 dX8_text_80 rfl rfl rfl ?_
  refine ev_aload_n dX8_text_81 rfl ?_
  refine ev_getI lf_X8_142 dX8_text_82 rfl rfl ?_
  refine ev_if_eq 96 dX8_text_85 (by decide) (fun c1 => ?_) (fun c1 => ?_)
  · replace h := bv_tt c1 h
    refine ev_sipush (169 : Int32) dX8_text_96 (by decide) ?_
    refine ev_bipush (101 : Int32) dX8_text_99 (by decide) ?_
    refine ev_iload_n dX8_text_101 rfl ?_
    refine ev_imul dX8_text_102 ?_
    refine ev_iadd dX8_text_103 ?_
    refine ev_istore_n dX8_text_104 rfl rfl ?_
    refine ev_aload_n dX8_text_105 rfl ?_
    refine ev_getR 62 lf_X8_9 dX8_text_106 rfl rfl rfl ?_
    refine ev_iload_n dX8_text_109 rfl ?_
    refine ev_aload_n dX8_text_110 rfl ?_
    refine ev_getI lf_X8_132 dX8_text_111 rfl rfl ?_
    obtain ⟨g2, h⟩ := bv_gd h
    refine er_iast (N := 371) dX8_text_114 rfl g2 ?_
    refine ev_iconst (0 : Int32) dX8_text_115 (by decide) ?_
    refine ev_istore_n dX8_text_116 rfl rfl ?_
    exact ev_weak (by exact And.intro rfl (And.intro rfl (And.intro rfl (trivial)))) (wb_X8_text_117  400 _ _ _ _ h)
  · replace h := bv_ff c1 h
    refine ev_bipush (-10 : Int32) dX8_text_88 (by decide) ?_
    refine ev_aload_n dX8_text_90 rfl ?_
    refine ev_getI lf_X8_128 dX8_text_91 rfl rfl ?_
    refine ev_isub dX8_text_94 ?_
    obtain rfl := Option.some.inj h
    exact ev_iret rfl dX8_text_95 ⟨rfl, rfl, rfl⟩
set_option maxRecDepth 100000 in
set_option maxHeartbeats 4000000 in
theorem wb_X8_text_66  (l1 : Int32) (mi : bv_Mem) (z : Int32 × bv_Mem) (h : b_X8_text_66 l1 mi = some z) : bv_Ev MX8_text bv_X0 63 74 74 (bv_QI z) 66 [some (.ref 61), some (.int l1), none, none] [.ref 61] 74 (bv_mr mi) mi := by
  unfold b_X8_text_66 at h
  refine ev_iconst (1 : Int32) dX8_text_66 (by decide) ?_
  refine ev_goto 71 dX8_text_67 (by decide) ?_
  exact ev_weak (by exact And.intro rfl (And.intro rfl (trivial))) (wb_X8_text_71  _ _ _ _ h)
set_option maxRecDepth 100000 in
set_option maxHeartbeats 4000000 in
theorem we_X8_text   (l1 : Int32) (mi : bv_Mem) (z : Int32 × bv_Mem) (h : f_X8_text  l1 mi = some z) : bv_Ev MX8_text bv_X0 63 74 74 (bv_QI z) 0 [some (.ref 61), some (.int l1), none, none] [] 74 (bv_mr mi) mi := by
  unfold f_X8_text at h
  refine ev_iload_n dX8_text_0 rfl ?_
  refine ev_iconst (0 : Int32) dX8_text_1 (by decide) ?_
  refine ev_iconst (1 : Int32) dX8_text_2 (by decide) ?_
  obtain ⟨z1, hz1, h⟩ := bv_bd h
  refine er_SP [.int _, .int _, .int _] (fun _ _ q => q) lk_X8_47 dX8_text_3 rfl rfl rfl rfl (wm_X8_in _ _ _ _ _ hz1) ?_
  refine ev_if_ne 16 dX8_text_6 (by decide) (fun c1 => ?_) (fun c1 => ?_)
  · replace h := bv_ff c1 h
    refine ev_aload_n dX8_text_16 rfl ?_
    refine ev_iload_n dX8_text_17 rfl ?_
    refine er_putI lf_X8_135 dX8_text_18 rfl rfl rfl rfl ?_
    refine ev_aload_n dX8_text_21 rfl ?_
    refine ev_iconst (0 : Int32) dX8_text_22 (by decide) ?_
    refine er_putI lf_X8_132 dX8_text_23 rfl rfl rfl rfl ?_
    refine ev_aload_n dX8_text_26 rfl ?_
    refine ev_iconst (0 : Int32) dX8_text_27 (by decide) ?_
    refine er_putI lf_X8_128 dX8_text_28 rfl rfl rfl rfl ?_
    refine ev_aload_n dX8_text_31 rfl ?_
    refine ev_iconst (0 : Int32) dX8_text_32 (by decide) ?_
    refine er_putI lf_X8_150 dX8_text_33 rfl rfl rfl rfl ?_
    refine ev_aload_n dX8_text_36 rfl ?_
    refine ev_iconst (0 : Int32) dX8_text_37 (by decide) ?_
    refine er_putI lf_X8_142 dX8_text_38 rfl rfl rfl rfl ?_
    refine ev_aload_n dX8_text_41 rfl ?_
    obtain ⟨z2, hz2, h⟩ := bv_bd h
    refine er_VV [] (fun _ _ q => q) lk_X8_156 dX8_text_42 rfl rfl rfl rfl rfl ((wG_X8 60).1  _ _ hz2) ?_
    refine ev_aload_n dX8_text_45 rfl ?_
    refine ev_aload_n dX8_text_46 rfl ?_
    refine ev_getI lf_X8_142 dX8_text_47 rfl rfl ?_
    refine ev_if_ne 66 dX8_text_50 (by decide) (fun c2 => ?_) (fun c2 => ?_)
    · replace h := bv_ff c2 h
      exact ev_weak (by exact And.intro rfl (And.intro rfl (trivial))) (wb_X8_text_66  _ _ _ h)
    · replace h := bv_tt c2 h
      refine ev_aload_n dX8_text_53 rfl ?_
      refine ev_getI lf_X8_128 dX8_text_54 rfl rfl ?_
      refine ev_aload_n dX8_text_57 rfl ?_
      refine ev_getR 62 lf_X8_9 dX8_text_58 rfl rfl rfl ?_
      refine ev_iconst (4 : Int32) dX8_text_61 (by decide) ?_
      refine er_ialdk (N := 371) 4 dX8_text_62 rfl rfl rfl ?_
      refine ev_icmp_ge 70 dX8_text_63 (by decide) (fun c3 => ?_) (fun c3 => ?_)
      · replace h := bv_tt c3 h
        refine ev_iconst (0 : Int32) dX8_text_70 (by decide) ?_
        exact ev_weak (by exact And.intro rfl (And.intro rfl (trivial))) (wb_X8_text_71  _ _ _ _ h)
      · replace h := bv_ff c3 h
        exact ev_weak (by exact And.intro rfl (And.intro rfl (trivial))) (wb_X8_text_66  _ _ _ h)
  · replace h := bv_tt c1 h
    refine ev_aload_n dX8_text_9 rfl ?_
    refine ev_ldc (-1000000001 : Int32) dX8_text_10 lc_X8_72 ?_
    obtain ⟨z3, hz3, h⟩ := bv_bd h
    refine er_VI [.int _] (fun _ _ q => q) lk_X8_73 dX8_text_12 rfl rfl rfl rfl rfl (wm_X8_error _ _ _ hz3) ?_
    obtain rfl := Option.some.inj h
    exact ev_iret rfl dX8_text_15 ⟨rfl, rfl, rfl⟩
theorem wm_X8_text   (l1 : Int32) (mi : bv_Mem) (z : Int32 × bv_Mem) (h : f_X8_text  l1 mi = some z) : bv_Met yX8_text MX8_text bv_X0 63 74 74 [.ref 61, .int l1] (bv_mr mi) mi (bv_QI z) :=
  bv_Met.of (pn_X 8 (by decide)) rfl (fun q => absurd q Bool.false_ne_true) (Nat.le_of_ble_eq_true rfl) (we_X8_text   l1 mi z h)
set_option maxRecDepth 100000 in
set_option maxHeartbeats 4000000 in
theorem we_X8_law   (l1 : Int32) (l2 : Int32) (l3 : Int32) (l4 : Int32) (mi : bv_Mem) (z : Int32 × bv_Mem) (h : f_X8_law  l1 l2 l3 l4 mi = some z) : bv_Ev MX8_law bv_X0 3 74 74 (bv_QI z) 0 [some (.ref 61), some (.int l1), some (.int l2), some (.int l3), some (.int l4)] [] 74 (bv_mr mi) mi := by
  unfold f_X8_law at h
  refine ev_iload_n dX8_law_0 rfl ?_
  refine ev_iconst (0 : Int32) dX8_law_1 (by decide) ?_
  refine ev_iconst (1 : Int32) dX8_law_2 (by decide) ?_
  obtain ⟨z1, hz1, h⟩ := bv_bd h
  refine er_SP [.int _, .int _, .int _] (fun _ _ q => q) lk_X8_47 dX8_law_3 rfl rfl rfl rfl (wm_X8_in _ _ _ _ _ hz1) ?_
  refine ev_if_eq 21 dX8_law_6 (by decide) (fun c1 => ?_) (fun c1 => ?_)
  · replace h := bv_tt c1 h
    refine ev_aload_n dX8_law_21 rfl ?_
    refine ev_ldc (-1000000001 : Int32) dX8_law_22 lc_X8_72 ?_
    obtain ⟨z2, hz2, h⟩ := bv_bd h
    refine er_VI [.int _] (fun _ _ q => q) lk_X8_73 dX8_law_24 rfl rfl rfl rfl rfl (wm_X8_error _ _ _ hz2) ?_
    obtain rfl := Option.some.inj h
    exact ev_iret rfl dX8_law_27 ⟨rfl, rfl, rfl⟩
  · replace h := bv_ff c1 h
    refine ev_aload_n dX8_law_9 rfl ?_
    refine ev_iload_n dX8_law_10 rfl ?_
    refine ev_iload_n dX8_law_11 rfl ?_
    refine ev_iload_n dX8_law_12 rfl ?_
    refine ev_iload dX8_law_13 rfl ?_
    obtain ⟨z3, hz3, h⟩ := bv_bd h
    refine er_VI [.int _, .int _, .int _, .int _] (fun _ _ q => q) lk_X8_102 dX8_law_15 rfl rfl rfl rfl rfl (wm_X8_gives _ _ _ _ _ _ hz3) ?_
    refine ev_goto 27 dX8_law_18 (by decide) ?_
    obtain rfl := Option.some.inj h
    exact ev_iret rfl dX8_law_27 ⟨rfl, rfl, rfl⟩
theorem wm_X8_law   (l1 : Int32) (l2 : Int32) (l3 : Int32) (l4 : Int32) (mi : bv_Mem) (z : Int32 × bv_Mem) (h : f_X8_law  l1 l2 l3 l4 mi = some z) : bv_Met yX8_law MX8_law bv_X0 3 74 74 [.ref 61, .int l1, .int l2, .int l3, .int l4] (bv_mr mi) mi (bv_QI z) :=
  bv_Met.of (pn_X 8 (by decide)) rfl (fun q => absurd q Bool.false_ne_true) (Nat.le_of_ble_eq_true rfl) (we_X8_law   l1 l2 l3 l4 mi z h)
set_option maxRecDepth 100000 in
set_option maxHeartbeats 4000000 in
theorem wb_X8_day_41  : ∀ (fu : Nat) (l1 : Int32) (mi : bv_Mem) (z : bv_Mem), b_X8_day_41 fu l1 mi = some z → bv_Ev MX8_day bv_X0 1 74 74 (bv_QV z) 41 [some (.ref 61), some (.int l1)] [] 74 (bv_mr mi) mi := by
  intro fu
  induction fu with
  | zero =>
    intro l1 mi z h
    rw [b_X8_day_41] at h
    cases h
  | succ fu ih =>
    intro l1 mi z h
    rw [b_X8_day_41] at h
    refine ev_iload_n dX8_day_41 rfl ?_
    refine ev_aload_n dX8_day_42 rfl ?_
    refine ev_getR 62 lf_X8_9 dX8_day_43 rfl rfl rfl ?_
    refine ev_iconst (3 : Int32) dX8_day_46 (by decide) ?_
    refine er_ialdk (N := 371) 3 dX8_day_47 rfl rfl rfl ?_
    refine ev_icmp_ge 86 dX8_day_48 (by decide) (fun c1 => ?_) (fun c1 => ?_)
    · replace h := bv_tt c1 h
      refine ev_aload_n dX8_day_86 rfl ?_
      refine ev_getR 62 lf_X8_9 dX8_day_87 rfl rfl rfl ?_
      refine ev_iconst (0 : Int32) dX8_day_90 (by decide) ?_
      refine ev_dup2 dX8_day_91 rfl rfl ?_
      refine er_ialdk (N := 371) 0 dX8_day_92 rfl rfl rfl ?_
      refine ev_iconst (1 : Int32) dX8_day_93 (by decide) ?_
      refine ev_iadd dX8_day_94 ?_
      refine er_iastk (N := 371) 0 dX8_day_95 rfl rfl rfl ?_
      obtain rfl := Option.some.inj h
      exact ev_vret rfl dX8_day_96 ⟨rfl, rfl, rfl⟩
    · replace h := bv_ff c1 h
      refine ev_aload_n dX8_day_51 rfl ?_
      refine ev_iload_n dX8_day_52 rfl ?_
      refine ev_iconst (5 : Int32) dX8_day_53 (by decide) ?_
      obtain ⟨z1, hz1, h⟩ := bv_bd h
      refine er_VP [.int _, .int _] (fun _ _ q => q) lk_X8_89 dX8_day_54 rfl rfl rfl rfl rfl (wm_X8_of _ _ _ _ hz1) ?_
      refine ev_if_ne 80 dX8_day_57 (by decide) (fun c2 => ?_) (fun c2 => ?_)
      · replace h := bv_ff c2 h
        refine ev_iinc (l1 + 1) dX8_day_80 rfl rfl rfl rfl ?_
        refine ev_goto 41 dX8_day_83 (by decide) ?_
        exact ev_weak (by exact And.intro rfl (And.intro rfl (trivial))) (ih _ _ _ h)
      · replace h := bv_tt c2 h
        refine ev_aload_n dX8_day_60 rfl ?_
        refine ev_iload_n dX8_day_61 rfl ?_
        refine ev_iconst (4 : Int32) dX8_day_62 (by decide) ?_
        refine ev_aload_n dX8_day_63 rfl ?_
        refine ev_iload_n dX8_day_64 rfl ?_
        refine ev_iconst (4 : Int32) dX8_day_65 (by decide) ?_
        obtain ⟨z2, hz2, h⟩ := bv_bd h
        refine er_VP [.int _, .int _] (fun _ _ q => q) lk_X8_89 dX8_day_66 rfl rfl rfl rfl rfl (wm_X8_of _ _ _ _ hz2) ?_
        refine ev_iconst (1 : Int32) dX8_day_69 (by decide) ?_
        refine ev_iadd dX8_day_70 ?_
        refine ev_iconst (0 : Int32) dX8_day_71 (by decide) ?_
        refine ev_bipush (99 : Int32) dX8_day_72 (by decide) ?_
        obtain ⟨z3, hz3, h⟩ := bv_bd h
        refine er_SP [.int _, .int _, .int _] (fun _ _ q => q) lk_X8_187 dX8_day_74 rfl rfl rfl rfl (wm_X8_held _ _ _ _ _ hz3) ?_
        obtain ⟨z4, hz4, h⟩ := bv_bd h
        refine er_VV [.int _, .int _, .int _] (fun _ _ q => q) lk_X8_111 dX8_day_77 rfl rfl rfl rfl rfl (wm_X8_lay _ _ _ _ _ hz4) ?_
        refine ev_iinc (l1 + 1) dX8_day_80 rfl rfl rfl rfl ?_
        refine ev_goto 41 dX8_day_83 (by decide) ?_
        exact ev_weak (by exact And.intro rfl (And.intro rfl (trivial))) (ih _ _ _ h)
set_option maxRecDepth 100000 in
set_option maxHeartbeats 4000000 in
theorem wb_X8_day_2  : ∀ (fu : Nat) (l1 : Int32) (mi : bv_Mem) (z : bv_Mem), b_X8_day_2 fu l1 mi = some z → bv_Ev MX8_day bv_X0 1 74 74 (bv_QV z) 2 [some (.ref 61), some (.int l1)] [] 74 (bv_mr mi) mi := by
  intro fu
  induction fu with
  | zero =>
    intro l1 mi z h
    rw [b_X8_day_2] at h
    cases h
  | succ fu ih =>
    intro l1 mi z h
    rw [b_X8_day_2] at h
    refine ev_iload_n dX8_day_2 rfl ?_
    refine ev_bipush (20 : Int32) dX8_day_3 (by decide) ?_
    refine ev_icmp_ge 39 dX8_day_5 (by decide) (fun c1 => ?_) (fun c1 => ?_)
    · replace h := bv_tt c1 h
      refine ev_iconst (0 : Int32) dX8_day_39 (by decide) ?_
      refine ev_istore_n dX8_day_40 rfl rfl ?_
      exact ev_weak (by exact And.intro rfl (And.intro rfl (trivial))) (wb_X8_day_41  400 _ _ _ h)
    · replace h := bv_ff c1 h
      refine ev_aload_n dX8_day_8 rfl ?_
      refine ev_getR 62 lf_X8_9 dX8_day_9 rfl rfl rfl ?_
      refine ev_bipush (31 : Int32) dX8_day_12 (by decide) ?_
      refine ev_iload_n dX8_day_14 rfl ?_
      refine ev_iadd dX8_day_15 ?_
      refine ev_dup2 dX8_day_16 rfl rfl ?_
      obtain ⟨g1, h⟩ := bv_gd h
      refine ev_iald (N := 371) dX8_day_17 rfl g1 ?_
      refine ev_aload_n dX8_day_18 rfl ?_
      refine ev_iload_n dX8_day_19 rfl ?_
      obtain ⟨z1, hz1, h⟩ := bv_bd h
      refine er_VP [.int _] (fun _ _ q => q) lk_X8_51 dX8_day_20 rfl rfl rfl rfl rfl (wm_X8_isThere _ _ _ hz1) ?_
      refine ev_if_eq 30 dX8_day_23 (by decide) (fun c2 => ?_) (fun c2 => ?_)
      · replace h := bv_tt c2 h
        refine ev_iconst (1 : Int32) dX8_day_30 (by decide) ?_
        refine ev_isub dX8_day_31 ?_
        refine er_iast (N := 371) dX8_day_32 rfl g1 ?_
        refine ev_iinc (l1 + 1) dX8_day_33 rfl rfl rfl rfl ?_
        refine ev_goto 2 dX8_day_36 (by decide) ?_
        exact ev_weak (by exact And.intro rfl (And.intro rfl (trivial))) (ih _ _ _ h)
      · replace h := bv_ff c2 h
        refine ev_iconst (0 : Int32) dX8_day_26 (by decide) ?_
        refine ev_goto 31 dX8_day_27 (by decide) ?_
        refine ev_isub dX8_day_31 ?_
        refine er_iast (N := 371) dX8_day_32 rfl g1 ?_
        refine ev_iinc (l1 + 1) dX8_day_33 rfl rfl rfl rfl ?_
        refine ev_goto 2 dX8_day_36 (by decide) ?_
        exact ev_weak (by exact And.intro rfl (And.intro rfl (trivial))) (ih _ _ _ h)
set_option maxRecDepth 100000 in
set_option maxHeartbeats 4000000 in
theorem we_X8_day    (mi : bv_Mem) (z : bv_Mem) (h : f_X8_day  mi = some z) : bv_Ev MX8_day bv_X0 1 74 74 (bv_QV z) 0 [some (.ref 61), none] [] 74 (bv_mr mi) mi := by
  unfold f_X8_day at h
  refine ev_iconst (0 : Int32) dX8_day_0 (by decide) ?_
  refine ev_istore_n dX8_day_1 rfl rfl ?_
  exact ev_weak (by exact And.intro rfl (And.intro rfl (trivial))) (wb_X8_day_2  400 _ _ _ h)
theorem wm_X8_day    (mi : bv_Mem) (z : bv_Mem) (h : f_X8_day  mi = some z) : bv_Met yX8_day MX8_day bv_X0 1 74 74 [.ref 61] (bv_mr mi) mi (bv_QV z) :=
  bv_Met.of (pn_X 8 (by decide)) rfl (fun q => absurd q Bool.false_ne_true) (Nat.le_of_ble_eq_true rfl) (we_X8_day   mi z h)
set_option maxRecDepth 100000 in
set_option maxHeartbeats 4000000 in
theorem wb_X8_goesOn_2  : ∀ (fu : Nat) (l1 : Int32) (l2 : Int32) (mi : bv_Mem) (z : bv_Mem), b_X8_goesOn_2 fu l1 l2 mi = some z → bv_Ev MX8_goesOn bv_X0 2 74 74 (bv_QV z) 2 [some (.ref 61), some (.int l1), some (.int l2)] [] 74 (bv_mr mi) mi := by
  intro fu
  induction fu with
  | zero =>
    intro l1 l2 mi z h
    rw [b_X8_goesOn_2] at h
    cases h
  | succ fu ih =>
    intro l1 l2 mi z h
    rw [b_X8_goesOn_2] at h
    refine ev_iload_n dX8_goesOn_2 rfl ?_
    refine ev_iload_n dX8_goesOn_3 rfl ?_
    refine ev_icmp_ge 17 dX8_goesOn_4 (by decide) (fun c1 => ?_) (fun c1 => ?_)
    · replace h := bv_tt c1 h
      obtain rfl := Option.some.inj h
      exact ev_vret rfl dX8_goesOn_17 ⟨rfl, rfl, rfl⟩
    · replace h := bv_ff c1 h
      refine ev_aload_n dX8_goesOn_7 rfl ?_
      obtain ⟨z1, hz1, h⟩ := bv_bd h
      refine er_VV [] (fun _ _ q => q) lk_X8_190 dX8_goesOn_8 rfl rfl rfl rfl rfl (wm_X8_day  _ _ hz1) ?_
      refine ev_iinc (l2 + 1) dX8_goesOn_11 rfl rfl rfl rfl ?_
      refine ev_goto 2 dX8_goesOn_14 (by decide) ?_
      exact ev_weak (by exact And.intro rfl (And.intro rfl (And.intro rfl (trivial)))) (ih _ _ _ _ h)
set_option maxRecDepth 100000 in
set_option maxHeartbeats 4000000 in
theorem we_X8_goesOn   (l1 : Int32) (mi : bv_Mem) (z : bv_Mem) (h : f_X8_goesOn  l1 mi = some z) : bv_Ev MX8_goesOn bv_X0 2 74 74 (bv_QV z) 0 [some (.ref 61), some (.int l1), none] [] 74 (bv_mr mi) mi := by
  unfold f_X8_goesOn at h
  refine ev_iconst (0 : Int32) dX8_goesOn_0 (by decide) ?_
  refine ev_istore_n dX8_goesOn_1 rfl rfl ?_
  exact ev_weak (by exact And.intro rfl (And.intro rfl (And.intro rfl (trivial)))) (wb_X8_goesOn_2  400 _ _ _ _ h)
theorem wm_X8_goesOn   (l1 : Int32) (mi : bv_Mem) (z : bv_Mem) (h : f_X8_goesOn  l1 mi = some z) : bv_Met yX8_goesOn MX8_goesOn bv_X0 2 74 74 [.ref 61, .int l1] (bv_mr mi) mi (bv_QV z) :=
  bv_Met.of (pn_X 8 (by decide)) rfl (fun q => absurd q Bool.false_ne_true) (Nat.le_of_ble_eq_true rfl) (we_X8_goesOn   l1 mi z h)
set_option maxRecDepth 100000 in
set_option maxHeartbeats 4000000 in
theorem wb_X8_missing_4 (mi : bv_Mem) : ∀ (fu : Nat) (l1 : Int32) (l2 : Int32) (z : Int32), b_X8_missing_4 mi fu l1 l2 = some z → bv_Ev MX8_missing bv_X0 1 74 74 (bv_QP z mi) 4 [some (.ref 61), some (.int l1), some (.int l2)] [] 74 (bv_mr mi) mi := by
  intro fu
  induction fu with
  | zero =>
    intro l1 l2 z h
    rw [b_X8_missing_4] at h
    cases h
  | succ fu ih =>
    intro l1 l2 z h
    rw [b_X8_missing_4] at h
    refine ev_iload_n dX8_missing_4 rfl ?_
    refine ev_bipush (20 : Int32) dX8_missing_5 (by decide) ?_
    refine ev_icmp_ge 32 dX8_missing_7 (by decide) (fun c1 => ?_) (fun c1 => ?_)
    · replace h := bv_tt c1 h
      refine ev_iload_n dX8_missing_32 rfl ?_
      obtain rfl := Option.some.inj h
      exact ev_iret rfl dX8_missing_33 ⟨rfl, rfl, rfl⟩
    · replace h := bv_ff c1 h
      refine ev_iload_n dX8_missing_10 rfl ?_
      refine ev_aload_n dX8_missing_11 rfl ?_
      refine ev_iload_n dX8_missing_12 rfl ?_
      obtain ⟨z1, hz1, h⟩ := bv_bd h
      refine er_VP [.int _] (fun _ _ q => q) lk_X8_51 dX8_missing_13 rfl rfl rfl rfl rfl (wm_X8_isThere _ _ _ hz1) ?_
      refine ev_if_eq 23 dX8_missing_16 (by decide) (fun c2 => ?_) (fun c2 => ?_)
      · replace h := bv_tt c2 h
        refine ev_iconst (1 : Int32) dX8_missing_23 (by decide) ?_
        refine ev_iadd dX8_missing_24 ?_
        refine ev_istore_n dX8_missing_25 rfl rfl ?_
        refine ev_iinc (l2 + 1) dX8_missing_26 rfl rfl rfl rfl ?_
        refine ev_goto 4 dX8_missing_29 (by decide) ?_
        exact ev_weak (by exact And.intro rfl (And.intro rfl (And.intro rfl (trivial)))) (ih _ _ _ h)
      · replace h := bv_ff c2 h
        refine ev_iconst (0 : Int32) dX8_missing_19 (by decide) ?_
        refine ev_goto 24 dX8_missing_20 (by decide) ?_
        refine ev_iadd dX8_missing_24 ?_
        refine ev_istore_n dX8_missing_25 rfl rfl ?_
        refine ev_iinc (l2 + 1) dX8_missing_26 rfl rfl rfl rfl ?_
        refine ev_goto 4 dX8_missing_29 (by decide) ?_
        exact ev_weak (by exact And.intro rfl (And.intro rfl (And.intro rfl (trivial)))) (ih _ _ _ h)
set_option maxRecDepth 100000 in
set_option maxHeartbeats 4000000 in
theorem we_X8_missing    (mi : bv_Mem) (z : Int32) (h : f_X8_missing  mi = some z) : bv_Ev MX8_missing bv_X0 1 74 74 (bv_QP z mi) 0 [some (.ref 61), none, none] [] 74 (bv_mr mi) mi := by
  unfold f_X8_missing at h
  refine ev_iconst (0 : Int32) dX8_missing_0 (by decide) ?_
  refine ev_istore_n dX8_missing_1 rfl rfl ?_
  refine ev_iconst (0 : Int32) dX8_missing_2 (by decide) ?_
  refine ev_istore_n dX8_missing_3 rfl rfl ?_
  exact ev_weak (by exact And.intro rfl (And.intro rfl (And.intro rfl (trivial)))) (wb_X8_missing_4 mi 400 _ _ _ h)
theorem wm_X8_missing    (mi : bv_Mem) (z : Int32) (h : f_X8_missing  mi = some z) : bv_Met yX8_missing MX8_missing bv_X0 1 74 74 [.ref 61] (bv_mr mi) mi (bv_QP z mi) :=
  bv_Met.of (pn_X 8 (by decide)) rfl (fun q => absurd q Bool.false_ne_true) (Nat.le_of_ble_eq_true rfl) (we_X8_missing   mi z h)
set_option maxRecDepth 100000 in
set_option maxHeartbeats 4000000 in
theorem we_X8_days   (l1 : Int32) (mi : bv_Mem) (z : Int32 × bv_Mem) (h : f_X8_days  l1 mi = some z) : bv_Ev MX8_days bv_X0 3 74 74 (bv_QI z) 0 [some (.ref 61), some (.int l1)] [] 74 (bv_mr mi) mi := by
  unfold f_X8_days at h
  refine ev_iload_n dX8_days_0 rfl ?_
  refine ev_iconst (1 : Int32) dX8_days_1 (by decide) ?_
  refine ev_bipush (100 : Int32) dX8_days_2 (by decide) ?_
  obtain ⟨z1, hz1, h⟩ := bv_bd h
  refine er_SP [.int _, .int _, .int _] (fun _ _ q => q) lk_X8_47 dX8_days_4 rfl rfl rfl rfl (wm_X8_in _ _ _ _ _ hz1) ?_
  refine ev_if_ne 17 dX8_days_7 (by decide) (fun c1 => ?_) (fun c1 => ?_)
  · replace h := bv_ff c1 h
    refine ev_aload_n dX8_days_17 rfl ?_
    refine ev_getR 62 lf_X8_9 dX8_days_18 rfl rfl rfl ?_
    refine ev_iconst (0 : Int32) dX8_days_21 (by decide) ?_
    refine er_ialdk (N := 371) 0 dX8_days_22 rfl rfl rfl ?_
    refine ev_iload_n dX8_days_23 rfl ?_
    refine ev_iadd dX8_days_24 ?_
    refine ev_sipush (9999 : Int32) dX8_days_25 (by decide) ?_
    refine ev_icmp_le 38 dX8_days_28 (by decide) (fun c2 => ?_) (fun c2 => ?_)
    · replace h := bv_tt c2 h
      refine ev_aload_n dX8_days_38 rfl ?_
      refine ev_iload_n dX8_days_39 rfl ?_
      obtain ⟨z2, hz2, h⟩ := bv_bd h
      refine er_VV [.int _] (fun _ _ q => q) lk_X8_193 dX8_days_40 rfl rfl rfl rfl rfl (wm_X8_goesOn _ _ _ hz2) ?_
      refine ev_aload_n dX8_days_43 rfl ?_
      obtain ⟨z3, hz3, h⟩ := bv_bd h
      refine er_VP [] (fun _ _ q => q) lk_X8_196 dX8_days_44 rfl rfl rfl rfl rfl (wm_X8_missing  _ _ hz3) ?_
      obtain rfl := Option.some.inj h
      exact ev_iret rfl dX8_days_47 ⟨rfl, rfl, rfl⟩
    · replace h := bv_ff c2 h
      refine ev_aload_n dX8_days_31 rfl ?_
      refine ev_ldc (-1000000003 : Int32) dX8_days_32 lc_X8_110 ?_
      obtain ⟨z4, hz4, h⟩ := bv_bd h
      refine er_VI [.int _] (fun _ _ q => q) lk_X8_73 dX8_days_34 rfl rfl rfl rfl rfl (wm_X8_error _ _ _ hz4) ?_
      obtain rfl := Option.some.inj h
      exact ev_iret rfl dX8_days_37 ⟨rfl, rfl, rfl⟩
  · replace h := bv_tt c1 h
    refine ev_aload_n dX8_days_10 rfl ?_
    refine ev_ldc (-1000000001 : Int32) dX8_days_11 lc_X8_72 ?_
    obtain ⟨z5, hz5, h⟩ := bv_bd h
    refine er_VI [.int _] (fun _ _ q => q) lk_X8_73 dX8_days_13 rfl rfl rfl rfl rfl (wm_X8_error _ _ _ hz5) ?_
    obtain rfl := Option.some.inj h
    exact ev_iret rfl dX8_days_16 ⟨rfl, rfl, rfl⟩
theorem wm_X8_days   (l1 : Int32) (mi : bv_Mem) (z : Int32 × bv_Mem) (h : f_X8_days  l1 mi = some z) : bv_Met yX8_days MX8_days bv_X0 3 74 74 [.ref 61, .int l1] (bv_mr mi) mi (bv_QI z) :=
  bv_Met.of (pn_X 8 (by decide)) rfl (fun q => absurd q Bool.false_ne_true) (Nat.le_of_ble_eq_true rfl) (we_X8_days   l1 mi z h)
