set_option maxRecDepth 100000 in
set_option maxHeartbeats 4000000 in
theorem wb_X7_keeps_30  : ∀ (fu : Nat) (l1 : Int32) (l2 : Int32) (l3 : Int32) (l4 : Int32) (mi : bv_Mem) (z : Int32 × bv_Mem), b_X7_keeps_30 fu l1 l2 l3 l4 mi = some z → bv_Ev MX7_keeps bv_X0 67 74 74 (bv_QI z) 30 [some (.ref 0), some (.int l1), some (.int l2), some (.int l3), some (.int l4), none] [] 74 (bv_mr mi) mi := by
  intro fu
  induction fu with
  | zero =>
    intro l1 l2 l3 l4 mi z h
    rw [b_X7_keeps_30] at h
    cases h
  | succ fu ih =>
    intro l1 l2 l3 l4 mi z h
    rw [b_X7_keeps_30] at h
    refine ev_iload dX7_keeps_30 rfl ?_
    refine ev_iconst (1 : Int32) dX7_keeps_32 (by decide) ?_
    refine ev_aload_n dX7_keeps_33 rfl ?_
    refine ev_getR 1 lf_X7_10 dX7_keeps_34 rfl rfl rfl ?_
    refine ev_getI lf_X7_115 dX7_keeps_37 rfl rfl ?_
    refine ev_ishl dX7_keeps_40 ?_
    refine ev_icmp_ge 79 dX7_keeps_41 (by decide) (fun c1 => ?_) (fun c1 => ?_)
    · replace h := bv_tt c1 h
      refine ev_iload_n dX7_keeps_79 rfl ?_
      refine ev_if_ne 87 dX7_keeps_80 (by decide) (fun c2 => ?_) (fun c2 => ?_)
      · replace h := bv_ff c2 h
        refine ev_iload_n dX7_keeps_87 rfl ?_
        obtain rfl := Option.some.inj h
        exact ev_iret rfl dX7_keeps_88 ⟨rfl, rfl, rfl⟩
      · replace h := bv_tt c2 h
        refine ev_iload_n dX7_keeps_83 rfl ?_
        refine ev_goto 88 dX7_keeps_84 (by decide) ?_
        obtain rfl := Option.some.inj h
        exact ev_iret rfl dX7_keeps_88 ⟨rfl, rfl, rfl⟩
    · replace h := bv_ff c1 h
      refine ev_aload_n dX7_keeps_44 rfl ?_
      refine ev_iload dX7_keeps_45 rfl ?_
      obtain ⟨z1, hz1, h⟩ := bv_bd h
      refine er_VP [.int _] (fun _ _ q => q) lk_X7_239 dX7_keeps_47 rfl rfl rfl rfl rfl (wm_X7_priceTogether _ _ _ hz1) ?_
      refine ev_istore dX7_keeps_50 rfl rfl ?_
      refine ev_iload dX7_keeps_52 rfl ?_
      refine ev_iload_n dX7_keeps_54 rfl ?_
      refine ev_icmp_le 73 dX7_keeps_55 (by decide) (fun c3 => ?_) (fun c3 => ?_)
      · replace h := bv_tt c3 h
        refine ev_iinc (l4 + 1) dX7_keeps_73 rfl rfl rfl rfl ?_
        refine ev_goto 30 dX7_keeps_76 (by decide) ?_
        exact ev_weak (by exact And.intro rfl (And.intro rfl (And.intro rfl (And.intro rfl (And.intro rfl (trivial)))))) (ih _ _ _ _ _ _ h)
      · replace h := bv_ff c3 h
        refine ev_aload_n dX7_keeps_58 rfl ?_
        refine ev_iload dX7_keeps_59 rfl ?_
        obtain ⟨z2, hz2, h⟩ := bv_bd h
        refine er_VP [.int _] (fun _ _ q => q) lk_X7_242 dX7_keeps_61 rfl rfl rfl rfl rfl (wm_X7_isApart _ _ _ hz2) ?_
        refine ev_if_eq 73 dX7_keeps_64 (by decide) (fun c4 => ?_) (fun c4 => ?_)
        · replace h := bv_tt c4 h
          refine ev_iinc (l4 + 1) dX7_keeps_73 rfl rfl rfl rfl ?_
          refine ev_goto 30 dX7_keeps_76 (by decide) ?_
          exact ev_weak (by exact And.intro rfl (And.intro rfl (And.intro rfl (And.intro rfl (And.intro rfl (trivial)))))) (ih _ _ _ _ _ _ h)
        · replace h := bv_ff c4 h
          refine ev_iload dX7_keeps_67 rfl ?_
          refine ev_istore_n dX7_keeps_69 rfl rfl ?_
          refine ev_iload dX7_keeps_70 rfl ?_
          refine ev_istore_n dX7_keeps_72 rfl rfl ?_
          refine ev_iinc (l4 + 1) dX7_keeps_73 rfl rfl rfl rfl ?_
          refine ev_goto 30 dX7_keeps_76 (by decide) ?_
          exact ev_weak (by exact And.intro rfl (And.intro rfl (And.intro rfl (And.intro rfl (And.intro rfl (trivial)))))) (ih _ _ _ _ _ _ h)
set_option maxRecDepth 100000 in
set_option maxHeartbeats 4000000 in
theorem we_X7_keeps   (l1 : Int32) (mi : bv_Mem) (z : Int32 × bv_Mem) (h : f_X7_keeps  l1 mi = some z) : bv_Ev MX7_keeps bv_X0 67 74 74 (bv_QI z) 0 [some (.ref 0), some (.int l1), none, none, none, none] [] 74 (bv_mr mi) mi := by
  unfold f_X7_keeps at h
  refine ev_iload_n dX7_keeps_0 rfl ?_
  refine ev_iconst (0 : Int32) dX7_keeps_1 (by decide) ?_
  refine ev_iconst (1 : Int32) dX7_keeps_2 (by decide) ?_
  obtain ⟨z1, hz1, h⟩ := bv_bd h
  refine er_SP [.int _, .int _, .int _] (fun _ _ q => q) lk_X7_58 dX7_keeps_3 rfl rfl rfl rfl (wm_X7_isWithin _ _ _ _ _ hz1) ?_
  refine ev_if_ne 15 dX7_keeps_6 (by decide) (fun c1 => ?_) (fun c1 => ?_)
  · replace h := bv_ff c1 h
    refine ev_aload_n dX7_keeps_15 rfl ?_
    obtain ⟨z2, hz2, h⟩ := bv_bd h
    refine er_VV [] (fun _ _ q => q) lk_X7_230 dX7_keeps_16 rfl rfl rfl rfl rfl (wm_X7_workOutLefts  _ _ hz2) ?_
    refine ev_aload_n dX7_keeps_19 rfl ?_
    obtain ⟨z3, hz3, h⟩ := bv_bd h
    refine er_VV [] (fun _ _ q => q) lk_X7_236 dX7_keeps_20 rfl rfl rfl rfl rfl (wm_X7_workOutPrices  _ _ hz3) ?_
    refine ev_iconst (0 : Int32) dX7_keeps_23 (by decide) ?_
    refine ev_istore_n dX7_keeps_24 rfl rfl ?_
    refine ev_iconst (0 : Int32) dX7_keeps_25 (by decide) ?_
    refine ev_istore_n dX7_keeps_26 rfl rfl ?_
    refine ev_iconst (0 : Int32) dX7_keeps_27 (by decide) ?_
    refine ev_istore dX7_keeps_28 rfl rfl ?_
    exact ev_weak (by exact And.intro rfl (And.intro rfl (And.intro rfl (And.intro rfl (And.intro rfl (trivial)))))) (wb_X7_keeps_30  400 _ _ _ _ _ _ h)
  · replace h := bv_tt c1 h
    refine ev_aload_n dX7_keeps_9 rfl ?_
    refine ev_iconst (1 : Int32) dX7_keeps_10 (by decide) ?_
    obtain ⟨z4, hz4, h⟩ := bv_bd h
    refine er_VI [.int _] (fun _ _ q => q) lk_X7_62 dX7_keeps_11 rfl rfl rfl rfl rfl (wm_X7_error _ _ _ hz4) ?_
    obtain rfl := Option.some.inj h
    exact ev_iret rfl dX7_keeps_14 ⟨rfl, rfl, rfl⟩
theorem wm_X7_keeps   (l1 : Int32) (mi : bv_Mem) (z : Int32 × bv_Mem) (h : f_X7_keeps  l1 mi = some z) : bv_Met yX7_keeps MX7_keeps bv_X0 67 74 74 [.ref 0, .int l1] (bv_mr mi) mi (bv_QI z) :=
  bv_Met.of (pn_X 7 (by decide)) rfl (fun q => absurd q Bool.false_ne_true) (Nat.le_of_ble_eq_true rfl) (we_X7_keeps   l1 mi z h)
set_option maxRecDepth 100000 in
set_option maxHeartbeats 4000000 in
theorem wb_X7_blend_77  (l3 : Int32) (l4 : Int32) (s0 : Int32) (mi : bv_Mem) (z : Int32 × bv_Mem) (h : b_X7_blend_77 l3 l4 s0 mi = some z) : bv_Ev MX7_blend bv_X0 3 74 74 (bv_QI z) 77 [some (.ref 0), none, none, some (.int l3), some (.int l4), none] [.int s0] 74 (bv_mr mi) mi := by
  unfold b_X7_blend_77 at h
  refine ev_istore dX7_blend_77 rfl rfl ?_
  refine ev_iload_n dX7_blend_79 rfl ?_
  refine ev_iload dX7_blend_80 rfl ?_
  refine ev_iand dX7_blend_82 ?_
  refine ev_if_ne 91 dX7_blend_83 (by decide) (fun c1 => ?_) (fun c1 => ?_)
  · replace h := bv_ff c1 h
    refine ev_aload_n dX7_blend_91 rfl ?_
    refine ev_iconst (3 : Int32) dX7_blend_92 (by decide) ?_
    obtain ⟨z1, hz1, h⟩ := bv_bd h
    refine er_VI [.int _] (fun _ _ q => q) lk_X7_62 dX7_blend_93 rfl rfl rfl rfl rfl (wm_X7_error _ _ _ hz1) ?_
    obtain rfl := Option.some.inj h
    exact ev_iret rfl dX7_blend_96 ⟨rfl, rfl, rfl⟩
  · replace h := bv_tt c1 h
    refine ev_iload dX7_blend_86 rfl ?_
    refine ev_if_ne 97 dX7_blend_88 (by decide) (fun c2 => ?_) (fun c2 => ?_)
    · replace h := bv_ff c2 h
      refine ev_iload_n dX7_blend_97 rfl ?_
      refine ev_iload dX7_blend_98 rfl ?_
      refine ev_ior dX7_blend_100 ?_
      obtain rfl := Option.some.inj h
      exact ev_iret rfl dX7_blend_101 ⟨rfl, rfl, rfl⟩
    · replace h := bv_tt c2 h
      refine ev_aload_n dX7_blend_91 rfl ?_
      refine ev_iconst (3 : Int32) dX7_blend_92 (by decide) ?_
      obtain ⟨z2, hz2, h⟩ := bv_bd h
      refine er_VI [.int _] (fun _ _ q => q) lk_X7_62 dX7_blend_93 rfl rfl rfl rfl rfl (wm_X7_error _ _ _ hz2) ?_
      obtain rfl := Option.some.inj h
      exact ev_iret rfl dX7_blend_96 ⟨rfl, rfl, rfl⟩
set_option maxRecDepth 100000 in
set_option maxHeartbeats 4000000 in
theorem wb_X7_blend_72  (l3 : Int32) (l4 : Int32) (mi : bv_Mem) (z : Int32 × bv_Mem) (h : b_X7_blend_72 l3 l4 mi = some z) : bv_Ev MX7_blend bv_X0 3 74 74 (bv_QI z) 72 [some (.ref 0), none, none, some (.int l3), some (.int l4), none] [] 74 (bv_mr mi) mi := by
  unfold b_X7_blend_72 at h
  refine ev_iconst (1 : Int32) dX7_blend_72 (by decide) ?_
  refine ev_goto 77 dX7_blend_73 (by decide) ?_
  exact ev_weak (by exact And.intro rfl (And.intro rfl (And.intro rfl (trivial)))) (wb_X7_blend_77  _ _ _ _ _ h)
set_option maxRecDepth 100000 in
set_option maxHeartbeats 4000000 in
theorem we_X7_blend   (l1 : Int32) (l2 : Int32) (mi : bv_Mem) (z : Int32 × bv_Mem) (h : f_X7_blend  l1 l2 mi = some z) : bv_Ev MX7_blend bv_X0 3 74 74 (bv_QI z) 0 [some (.ref 0), some (.int l1), some (.int l2), none, none, none] [] 74 (bv_mr mi) mi := by
  unfold f_X7_blend at h
  refine ev_aload_n dX7_blend_0 rfl ?_
  refine ev_iload_n dX7_blend_1 rfl ?_
  obtain ⟨z1, hz1, h⟩ := bv_bd h
  refine er_VP [.int _] (fun _ _ q => q) lk_X7_132 dX7_blend_2 rfl rfl rfl rfl rfl (wm_X7_isBottle _ _ _ hz1) ?_
  refine ev_if_eq 21 dX7_blend_5 (by decide) (fun c1 => ?_) (fun c1 => ?_)
  · replace h := bv_tt c1 h
    refine ev_aload_n dX7_blend_21 rfl ?_
    refine ev_iconst (1 : Int32) dX7_blend_22 (by decide) ?_
    obtain ⟨z2, hz2, h⟩ := bv_bd h
    refine er_VI [.int _] (fun _ _ q => q) lk_X7_62 dX7_blend_23 rfl rfl rfl rfl rfl (wm_X7_error _ _ _ hz2) ?_
    obtain rfl := Option.some.inj h
    exact ev_iret rfl dX7_blend_26 ⟨rfl, rfl, rfl⟩
  · replace h := bv_ff c1 h
    refine ev_aload_n dX7_blend_8 rfl ?_
    refine ev_iload_n dX7_blend_9 rfl ?_
    obtain ⟨z3, hz3, h⟩ := bv_bd h
    refine er_VP [.int _] (fun _ _ q => q) lk_X7_132 dX7_blend_10 rfl rfl rfl rfl rfl (wm_X7_isBottle _ _ _ hz3) ?_
    refine ev_if_eq 21 dX7_blend_13 (by decide) (fun c2 => ?_) (fun c2 => ?_)
    · replace h := bv_tt c2 h
      refine ev_aload_n dX7_blend_21 rfl ?_
      refine ev_iconst (1 : Int32) dX7_blend_22 (by decide) ?_
      obtain ⟨z4, hz4, h⟩ := bv_bd h
      refine er_VI [.int _] (fun _ _ q => q) lk_X7_62 dX7_blend_23 rfl rfl rfl rfl rfl (wm_X7_error _ _ _ hz4) ?_
      obtain rfl := Option.some.inj h
      exact ev_iret rfl dX7_blend_26 ⟨rfl, rfl, rfl⟩
    · replace h := bv_ff c2 h
      refine ev_iload_n dX7_blend_16 rfl ?_
      refine ev_iload_n dX7_blend_17 rfl ?_
      refine ev_icmp_ne 27 dX7_blend_18 (by decide) (fun c3 => ?_) (fun c3 => ?_)
      · replace h := bv_ff c3 h
        refine ev_aload_n dX7_blend_27 rfl ?_
        refine ev_getR 1 lf_X7_10 dX7_blend_28 rfl rfl rfl ?_
        refine ev_getR 6 lf_X7_122 dX7_blend_31 rfl rfl rfl ?_
        refine ev_iload_n dX7_blend_34 rfl ?_
        obtain ⟨g1, h⟩ := bv_gd h
        obtain ⟨q1, hq1, h⟩ := bv_bd h
        refine er_aald (N := 8) q1 dX7_blend_35 rfl g1 hq1 ?_
        obtain ⟨g2, h⟩ := bv_gd h
        obtain ⟨z5, hz5, h⟩ := bv_bd h
        refine er_VP [] (fun _ _ q => q) lk_X7_158 dX7_blend_36 rfl rfl g2 rfl rfl (wm_X0_left _ _ _ hz5) ?_
        refine ev_istore_n dX7_blend_39 rfl rfl ?_
        refine ev_aload_n dX7_blend_40 rfl ?_
        refine ev_getR 1 lf_X7_10 dX7_blend_41 rfl rfl rfl ?_
        refine ev_getR 6 lf_X7_122 dX7_blend_44 rfl rfl rfl ?_
        refine ev_iload_n dX7_blend_47 rfl ?_
        obtain ⟨g3, h⟩ := bv_gd h
        obtain ⟨q2, hq2, h⟩ := bv_bd h
        refine er_aald (N := 8) q2 dX7_blend_48 rfl g3 hq2 ?_
        obtain ⟨g4, h⟩ := bv_gd h
        obtain ⟨z6, hz6, h⟩ := bv_bd h
        refine er_VP [] (fun _ _ q => q) lk_X7_158 dX7_blend_49 rfl rfl g4 rfl rfl (wm_X0_left _ _ _ hz6) ?_
        refine ev_istore dX7_blend_52 rfl rfl ?_
        refine ev_iload_n dX7_blend_54 rfl ?_
        refine ev_iconst (1 : Int32) dX7_blend_55 (by decide) ?_
        refine ev_ishl dX7_blend_56 ?_
        refine ev_iload dX7_blend_57 rfl ?_
        refine ev_iand dX7_blend_59 ?_
        refine ev_if_ne 72 dX7_blend_60 (by decide) (fun c4 => ?_) (fun c4 => ?_)
        · replace h := bv_ff c4 h
          exact ev_weak (by exact And.intro rfl (And.intro rfl (And.intro rfl (trivial)))) (wb_X7_blend_72  _ _ _ _ h)
        · replace h := bv_tt c4 h
          refine ev_iload dX7_blend_63 rfl ?_
          refine ev_iconst (1 : Int32) dX7_blend_65 (by decide) ?_
          refine ev_ishl dX7_blend_66 ?_
          refine ev_iload_n dX7_blend_67 rfl ?_
          refine ev_iand dX7_blend_68 ?_
          refine ev_if_eq 76 dX7_blend_69 (by decide) (fun c5 => ?_) (fun c5 => ?_)
          · replace h := bv_tt c5 h
            refine ev_iconst (0 : Int32) dX7_blend_76 (by decide) ?_
            exact ev_weak (by exact And.intro rfl (And.intro rfl (And.intro rfl (trivial)))) (wb_X7_blend_77  _ _ _ _ _ h)
          · replace h := bv_ff c5 h
            exact ev_weak (by exact And.intro rfl (And.intro rfl (And.intro rfl (trivial)))) (wb_X7_blend_72  _ _ _ _ h)
      · replace h := bv_tt c3 h
        refine ev_aload_n dX7_blend_21 rfl ?_
        refine ev_iconst (1 : Int32) dX7_blend_22 (by decide) ?_
        obtain ⟨z7, hz7, h⟩ := bv_bd h
        refine er_VI [.int _] (fun _ _ q => q) lk_X7_62 dX7_blend_23 rfl rfl rfl rfl rfl (wm_X7_error _ _ _ hz7) ?_
        obtain rfl := Option.some.inj h
        exact ev_iret rfl dX7_blend_26 ⟨rfl, rfl, rfl⟩
theorem wm_X7_blend   (l1 : Int32) (l2 : Int32) (mi : bv_Mem) (z : Int32 × bv_Mem) (h : f_X7_blend  l1 l2 mi = some z) : bv_Met yX7_blend MX7_blend bv_X0 3 74 74 [.ref 0, .int l1, .int l2] (bv_mr mi) mi (bv_QI z) :=
  bv_Met.of (pn_X 7 (by decide)) rfl (fun q => absurd q Bool.false_ne_true) (Nat.le_of_ble_eq_true rfl) (we_X7_blend   l1 l2 mi z h)
set_option maxRecDepth 100000 in
set_option maxHeartbeats 4000000 in
theorem wb_X7_thief_91 (k_34 : Int32 → Int32 → Int32 → Int32 → bv_Mem → Option (Int32 × bv_Mem)) (hk_34 : ∀ (l1 : Int32) (l2 : Int32) (l3 : Int32) (l4 : Int32) (mi : bv_Mem) (z : Int32 × bv_Mem), k_34 l1 l2 l3 l4 mi = some z → bv_Ev MX7_thief bv_X0 3 74 74 (bv_QI z) 34 [some (.ref 0), some (.int l1), some (.int l2), some (.int l3), some (.int l4), none, none] [] 74 (bv_mr mi) mi) (l1 : Int32) (l2 : Int32) (l3 : Int32) (l4 : Int32) (mi : bv_Mem) (z : Int32 × bv_Mem) (h : b_X7_thief_91 k_34 l1 l2 l3 l4 mi = some z) : bv_Ev MX7_thief bv_X0 3 74 74 (bv_QI z) 91 [some (.ref 0), some (.int l1), some (.int l2), some (.int l3), some (.int l4), none, none] [] 74 (bv_mr mi) mi := by
  unfold b_X7_thief_91 at h
  refine ev_iload_n dX7_thief_91 rfl ?_
  refine ev_iconst (1 : Int32) dX7_thief_92 (by decide) ?_
  refine ev_iload dX7_thief_93 rfl ?_
  refine ev_ishl dX7_thief_95 ?_
  refine ev_ior dX7_thief_96 ?_
  refine ev_istore_n dX7_thief_97 rfl rfl ?_
  refine ev_iinc (l4 + 1) dX7_thief_98 rfl rfl rfl rfl ?_
  refine ev_goto 34 dX7_thief_101 (by decide) ?_
  exact ev_weak (by exact And.intro rfl (And.intro rfl (And.intro rfl (And.intro rfl (And.intro rfl (trivial)))))) (hk_34 _ _ _ _ _ _ h)
set_option maxRecDepth 100000 in
set_option maxHeartbeats 4000000 in
theorem wb_X7_thief_34  : ∀ (fu : Nat) (l1 : Int32) (l2 : Int32) (l3 : Int32) (l4 : Int32) (mi : bv_Mem) (z : Int32 × bv_Mem), b_X7_thief_34 fu l1 l2 l3 l4 mi = some z → bv_Ev MX7_thief bv_X0 3 74 74 (bv_QI z) 34 [some (.ref 0), some (.int l1), some (.int l2), some (.int l3), some (.int l4), none, none] [] 74 (bv_mr mi) mi := by
  intro fu
  induction fu with
  | zero =>
    intro l1 l2 l3 l4 mi z h
    rw [b_X7_thief_34] at h
    cases h
  | succ fu ih =>
    intro l1 l2 l3 l4 mi z h
    rw [b_X7_thief_34] at h
    refine ev_iload dX7_thief_34 rfl ?_
    refine ev_bipush (20 : Int32) dX7_thief_36 (by decide) ?_
    refine ev_icmp_ge 104 dX7_thief_38 (by decide) (fun c1 => ?_) (fun c1 => ?_)
    · replace h := bv_tt c1 h
      refine ev_iload_n dX7_thief_104 rfl ?_
      obtain rfl := Option.some.inj h
      exact ev_iret rfl dX7_thief_105 ⟨rfl, rfl, rfl⟩
    · replace h := bv_ff c1 h
      refine ev_aload_n dX7_thief_41 rfl ?_
      refine ev_getR 1 lf_X7_10 dX7_thief_42 rfl rfl rfl ?_
      refine ev_getR 2 lf_X7_66 dX7_thief_45 rfl rfl rfl ?_
      refine ev_iload dX7_thief_48 rfl ?_
      refine ev_iconst (0 : Int32) dX7_thief_50 (by decide) ?_
      refine ev_iload_n dX7_thief_51 rfl ?_
      obtain ⟨z1, hz1, h⟩ := bv_bd h
      refine er_VP [.int _, .int _, .int _] (fun _ _ q => q) lk_X7_81 dX7_thief_52 rfl rfl rfl rfl rfl (wm_X1_seenFrom _ _ _ _ _ hz1) ?_
      refine ev_istore dX7_thief_55 rfl rfl ?_
      refine ev_aload_n dX7_thief_57 rfl ?_
      refine ev_getR 1 lf_X7_10 dX7_thief_58 rfl rfl rfl ?_
      refine ev_getR 2 lf_X7_66 dX7_thief_61 rfl rfl rfl ?_
      refine ev_iload dX7_thief_64 rfl ?_
      refine ev_iconst (1 : Int32) dX7_thief_66 (by decide) ?_
      refine ev_iload_n dX7_thief_67 rfl ?_
      obtain ⟨z2, hz2, h⟩ := bv_bd h
      refine er_VP [.int _, .int _, .int _] (fun _ _ q => q) lk_X7_81 dX7_thief_68 rfl rfl rfl rfl rfl (wm_X1_seenFrom _ _ _ _ _ hz2) ?_
      refine ev_istore dX7_thief_71 rfl rfl ?_
      refine ev_iload_n dX7_thief_73 rfl ?_
      refine ev_iload dX7_thief_74 rfl ?_
      refine ev_iconst (-1 : Int32) dX7_thief_76 (by decide) ?_
      refine ev_ixor dX7_thief_77 ?_
      refine ev_iand dX7_thief_78 ?_
      refine ev_if_eq 91 dX7_thief_79 (by decide) (fun c2 => ?_) (fun c2 => ?_)
      · replace h := bv_tt c2 h
        exact ev_weak (by exact And.intro rfl (And.intro rfl (And.intro rfl (And.intro rfl (And.intro rfl (trivial)))))) (wb_X7_thief_91 (b_X7_thief_34 fu) ih _ _ _ _ _ _ h)
      · replace h := bv_ff c2 h
        refine ev_iload_n dX7_thief_82 rfl ?_
        refine ev_iload dX7_thief_83 rfl ?_
        refine ev_iconst (-1 : Int32) dX7_thief_85 (by decide) ?_
        refine ev_ixor dX7_thief_86 ?_
        refine ev_iand dX7_thief_87 ?_
        refine ev_if_ne 98 dX7_thief_88 (by decide) (fun c3 => ?_) (fun c3 => ?_)
        · replace h := bv_ff c3 h
          refine ev_iinc (l4 + 1) dX7_thief_98 rfl rfl rfl rfl ?_
          refine ev_goto 34 dX7_thief_101 (by decide) ?_
          exact ev_weak (by exact And.intro rfl (And.intro rfl (And.intro rfl (And.intro rfl (And.intro rfl (trivial)))))) (ih _ _ _ _ _ _ h)
        · replace h := bv_tt c3 h
          exact ev_weak (by exact And.intro rfl (And.intro rfl (And.intro rfl (And.intro rfl (And.intro rfl (trivial)))))) (wb_X7_thief_91 (b_X7_thief_34 fu) ih _ _ _ _ _ _ h)
set_option maxRecDepth 100000 in
set_option maxHeartbeats 4000000 in
theorem we_X7_thief   (l1 : Int32) (mi : bv_Mem) (z : Int32 × bv_Mem) (h : f_X7_thief  l1 mi = some z) : bv_Ev MX7_thief bv_X0 3 74 74 (bv_QI z) 0 [some (.ref 0), some (.int l1), none, none, none, none, none] [] 74 (bv_mr mi) mi := by
  unfold f_X7_thief at h
  refine ev_iload_n dX7_thief_0 rfl ?_
  obtain ⟨z1, hz1, h⟩ := bv_bd h
  refine er_SP [.int _] (fun _ _ q => q) lk_X7_112 dX7_thief_1 rfl rfl rfl rfl (wm_X7_isSomePlaces _ _ _ hz1) ?_
  refine ev_if_ne 13 dX7_thief_4 (by decide) (fun c1 => ?_) (fun c1 => ?_)
  · replace h := bv_ff c1 h
    refine ev_aload_n dX7_thief_13 rfl ?_
    refine ev_getR 1 lf_X7_10 dX7_thief_14 rfl rfl rfl ?_
    refine ev_getR 2 lf_X7_66 dX7_thief_17 rfl rfl rfl ?_
    refine ev_iconst (0 : Int32) dX7_thief_20 (by decide) ?_
    obtain ⟨z2, hz2, h⟩ := bv_bd h
    refine er_VP [.int _] (fun _ _ q => q) lk_X7_78 dX7_thief_21 rfl rfl rfl rfl rfl (wm_X1_goneBehind _ _ _ hz2) ?_
    refine ev_iload_n dX7_thief_24 rfl ?_
    refine ev_iconst (-1 : Int32) dX7_thief_25 (by decide) ?_
    refine ev_ixor dX7_thief_26 ?_
    refine ev_iand dX7_thief_27 ?_
    refine ev_istore_n dX7_thief_28 rfl rfl ?_
    refine ev_iconst (0 : Int32) dX7_thief_29 (by decide) ?_
    refine ev_istore_n dX7_thief_30 rfl rfl ?_
    refine ev_iconst (0 : Int32) dX7_thief_31 (by decide) ?_
    refine ev_istore dX7_thief_32 rfl rfl ?_
    exact ev_weak (by exact And.intro rfl (And.intro rfl (And.intro rfl (And.intro rfl (And.intro rfl (trivial)))))) (wb_X7_thief_34  400 _ _ _ _ _ _ h)
  · replace h := bv_tt c1 h
    refine ev_aload_n dX7_thief_7 rfl ?_
    refine ev_iconst (1 : Int32) dX7_thief_8 (by decide) ?_
    obtain ⟨z3, hz3, h⟩ := bv_bd h
    refine er_VI [.int _] (fun _ _ q => q) lk_X7_62 dX7_thief_9 rfl rfl rfl rfl rfl (wm_X7_error _ _ _ hz3) ?_
    obtain rfl := Option.some.inj h
    exact ev_iret rfl dX7_thief_12 ⟨rfl, rfl, rfl⟩
theorem wm_X7_thief   (l1 : Int32) (mi : bv_Mem) (z : Int32 × bv_Mem) (h : f_X7_thief  l1 mi = some z) : bv_Met yX7_thief MX7_thief bv_X0 3 74 74 [.ref 0, .int l1] (bv_mr mi) mi (bv_QI z) :=
  bv_Met.of (pn_X 7 (by decide)) rfl (fun q => absurd q Bool.false_ne_true) (Nat.le_of_ble_eq_true rfl) (we_X7_thief   l1 mi z h)
set_option maxRecDepth 100000 in
set_option maxHeartbeats 4000000 in
theorem we_X7_both    (mi : bv_Mem) (z : Int32) (h : f_X7_both  mi = some z) : bv_Ev MX7_both bv_X0 4 74 74 (bv_QP z mi) 0 [some (.ref 0)] [] 74 (bv_mr mi) mi := by
  unfold f_X7_both at h
  refine ev_aload_n dX7_both_0 rfl ?_
  refine ev_getR 1 lf_X7_10 dX7_both_1 rfl rfl rfl ?_
  refine ev_iconst (0 : Int32) dX7_both_4 (by decide) ?_
  obtain ⟨z1, hz1, h⟩ := bv_bd h
  refine er_VP [.int _] (fun _ _ q => q) lk_X7_226 dX7_both_5 rfl rfl rfl rfl rfl (wm_X5_seenByAll _ _ _ hz1) ?_
  refine ev_aload_n dX7_both_8 rfl ?_
  refine ev_getR 1 lf_X7_10 dX7_both_9 rfl rfl rfl ?_
  refine ev_iconst (1 : Int32) dX7_both_12 (by decide) ?_
  obtain ⟨z2, hz2, h⟩ := bv_bd h
  refine er_VP [.int _] (fun _ _ q => q) lk_X7_226 dX7_both_13 rfl rfl rfl rfl rfl (wm_X5_seenByAll _ _ _ hz2) ?_
  refine ev_iand dX7_both_16 ?_
  obtain rfl := Option.some.inj h
  exact ev_iret rfl dX7_both_17 ⟨rfl, rfl, rfl⟩
theorem wm_X7_both    (mi : bv_Mem) (z : Int32) (h : f_X7_both  mi = some z) : bv_Met yX7_both MX7_both bv_X0 4 74 74 [.ref 0] (bv_mr mi) mi (bv_QP z mi) :=
  bv_Met.of (pn_X 7 (by decide)) rfl (fun q => absurd q Bool.false_ne_true) (Nat.le_of_ble_eq_true rfl) (we_X7_both   mi z h)
set_option maxRecDepth 100000 in
set_option maxHeartbeats 4000000 in
theorem we_X7_seed   (l1 : Int32) (mi : bv_Mem) (z : Int32 × bv_Mem) (h : f_X7_seed  l1 mi = some z) : bv_Ev MX7_seed bv_X0 0 74 74 (bv_QI z) 0 [some (.ref 0), some (.int l1), none] [] 74 (bv_mr mi) mi := by
  unfold f_X7_seed at h
  refine ev_aload_n dX7_seed_0 rfl ?_
  refine ev_getR 1 lf_X7_10 dX7_seed_1 rfl rfl rfl ?_
  refine ev_getI lf_X7_245 dX7_seed_4 rfl rfl ?_
  refine ev_istore_n dX7_seed_7 rfl rfl ?_
  refine ev_aload_n dX7_seed_8 rfl ?_
  refine ev_getR 1 lf_X7_10 dX7_seed_9 rfl rfl rfl ?_
  refine ev_iload_n dX7_seed_12 rfl ?_
  refine er_putI lf_X7_245 dX7_seed_13 rfl rfl rfl rfl ?_
  refine ev_iload_n dX7_seed_16 rfl ?_
  obtain rfl := Option.some.inj h
  exact ev_iret rfl dX7_seed_17 ⟨rfl, rfl, rfl⟩
theorem wm_X7_seed   (l1 : Int32) (mi : bv_Mem) (z : Int32 × bv_Mem) (h : f_X7_seed  l1 mi = some z) : bv_Met yX7_seed MX7_seed bv_X0 0 74 74 [.ref 0, .int l1] (bv_mr mi) mi (bv_QI z) :=
  bv_Met.of (pn_X 7 (by decide)) rfl (fun q => absurd q Bool.false_ne_true) (Nat.le_of_ble_eq_true rfl) (we_X7_seed   l1 mi z h)
set_option maxRecDepth 100000 in
set_option maxHeartbeats 4000000 in
theorem wb_X6_bodyFrom_4 (mi : bv_Mem) : ∀ (fu : Nat) (l1 : Int32) (l2 : Int32) (l3 : Int32) (z : Int32), b_X6_bodyFrom_4 mi fu l1 l2 l3 = some z → bv_Ev MX6_bodyFrom bv_X0 0 74 74 (bv_QP z mi) 4 [none, some (.int l1), some (.int l2), some (.int l3)] [] 74 (bv_mr mi) mi := by
  intro fu
  induction fu with
  | zero =>
    intro l1 l2 l3 z h
    rw [b_X6_bodyFrom_4] at h
    cases h
  | succ fu ih =>
    intro l1 l2 l3 z h
    rw [b_X6_bodyFrom_4] at h
    refine ev_iload_n dX6_bodyFrom_4 rfl ?_
    refine ev_bipush (7 : Int32) dX6_bodyFrom_5 (by decide) ?_
    refine ev_icmp_ge 34 dX6_bodyFrom_7 (by decide) (fun c1 => ?_) (fun c1 => ?_)
    · replace h := bv_tt c1 h
      refine ev_gets (j := 2) dX6_bodyFrom_34 (by decide) ls_X6_42 ?_
      refine ev_iload_n dX6_bodyFrom_37 rfl ?_
      refine ev_iconst (4 : Int32) dX6_bodyFrom_38 (by decide) ?_
      refine ev_imul dX6_bodyFrom_39 ?_
      refine ev_iload_n dX6_bodyFrom_40 rfl ?_
      refine ev_iadd dX6_bodyFrom_41 ?_
      obtain ⟨g1, h⟩ := bv_gd h
      refine ev_xld (j := 2) (N := 28) (f := bv_x2) dX6_bodyFrom_42 rfl g1 ?_
      obtain rfl := Option.some.inj h
      exact ev_iret rfl dX6_bodyFrom_43 ⟨rfl, rfl, rfl⟩
    · replace h := bv_ff c1 h
      refine ev_gets (j := 2) dX6_bodyFrom_10 (by decide) ls_X6_42 ?_
      refine ev_iload_n dX6_bodyFrom_13 rfl ?_
      refine ev_iconst (4 : Int32) dX6_bodyFrom_14 (by decide) ?_
      refine ev_imul dX6_bodyFrom_15 ?_
      refine ev_iload_n dX6_bodyFrom_16 rfl ?_
      refine ev_iadd dX6_bodyFrom_17 ?_
      obtain ⟨g2, h⟩ := bv_gd h
      refine ev_xld (j := 2) (N := 28) (f := bv_x2) dX6_bodyFrom_18 rfl g2 ?_
      refine ev_if_ne 34 dX6_bodyFrom_19 (by decide) (fun c2 => ?_) (fun c2 => ?_)
      · replace h := bv_ff c2 h
        refine ev_gets (j := 2) dX6_bodyFrom_34 (by decide) ls_X6_42 ?_
        refine ev_iload_n dX6_bodyFrom_37 rfl ?_
        refine ev_iconst (4 : Int32) dX6_bodyFrom_38 (by decide) ?_
        refine ev_imul dX6_bodyFrom_39 ?_
        refine ev_iload_n dX6_bodyFrom_40 rfl ?_
        refine ev_iadd dX6_bodyFrom_41 ?_
        refine ev_xld (j := 2) (N := 28) (f := bv_x2) dX6_bodyFrom_42 rfl g2 ?_
        obtain rfl := Option.some.inj h
        exact ev_iret rfl dX6_bodyFrom_43 ⟨rfl, rfl, rfl⟩
      · replace h := bv_tt c2 h
        refine ev_gets (j := 1) dX6_bodyFrom_22 (by decide) ls_X6_39 ?_
        refine ev_iload_n dX6_bodyFrom_25 rfl ?_
        obtain ⟨g3, h⟩ := bv_gd h
        refine ev_xld (j := 1) (N := 7) (f := bv_x1) dX6_bodyFrom_26 rfl g3 ?_
        refine ev_istore_n dX6_bodyFrom_27 rfl rfl ?_
        refine ev_iinc (l3 + 1) dX6_bodyFrom_28 rfl rfl rfl rfl ?_
        refine ev_goto 4 dX6_bodyFrom_31 (by decide) ?_
        exact ev_weak (by exact And.intro rfl (And.intro rfl (And.intro rfl (trivial)))) (ih _ _ _ _ h)
set_option maxRecDepth 100000 in
set_option maxHeartbeats 4000000 in
theorem we_X6_bodyFrom   (l0 : Int32) (l1 : Int32) (mi : bv_Mem) (z : Int32) (h : f_X6_bodyFrom  l0 l1 mi = some z) : bv_Ev MX6_bodyFrom bv_X0 0 74 74 (bv_QP z mi) 0 [some (.int l0), some (.int l1), none, none] [] 74 (bv_mr mi) mi := by
  unfold f_X6_bodyFrom at h
  refine ev_iload_n dX6_bodyFrom_0 rfl ?_
  refine ev_istore_n dX6_bodyFrom_1 rfl rfl ?_
  refine ev_iconst (0 : Int32) dX6_bodyFrom_2 (by decide) ?_
  refine ev_istore_n dX6_bodyFrom_3 rfl rfl ?_
  exact ev_weak (by exact And.intro rfl (And.intro rfl (And.intro rfl (trivial)))) (wb_X6_bodyFrom_4 mi 400 _ _ _ _ h)
theorem wm_X6_bodyFrom   (l0 : Int32) (l1 : Int32) (mi : bv_Mem) (z : Int32) (h : f_X6_bodyFrom  l0 l1 mi = some z) : bv_Met yX6_bodyFrom MX6_bodyFrom bv_X0 0 74 74 [.int l0, .int l1] (bv_mr mi) mi (bv_QP z mi) :=
  bv_Met.of (pn_X 6 (by decide)) rfl (fun q => absurd q Bool.false_ne_true) (Nat.le_of_ble_eq_true rfl) (we_X6_bodyFrom   l0 l1 mi z h)
set_option maxRecDepth 100000 in
set_option maxHeartbeats 4000000 in
theorem we_X6_own (r_X6_own : Int32 → Int32 → Int32 → bv_Mem → Option (Int32 × bv_Mem)) (r_X6_above : Int32 → Int32 → Int32 → Int32 → bv_Mem → Option (Int32 × bv_Mem)) (r_X6_work : Int32 → Int32 → Int32 → bv_Mem → Option (Int32 × bv_Mem)) (d : Nat) (hb : 1 ≤ d) (hr_X6_own : ∀ (l1 : Int32) (l2 : Int32) (l3 : Int32) (mi : bv_Mem) (z : Int32 × bv_Mem), r_X6_own l1 l2 l3 mi = some z → bv_Met yX6_own MX6_own bv_X0 d 74 74 [.ref 47, .int l1, .int l2, .int l3] (bv_mr mi) mi (bv_QI z)) (hr_X6_above : ∀ (l1 : Int32) (l2 : Int32) (l3 : Int32) (l4 : Int32) (mi : bv_Mem) (z : Int32 × bv_Mem), r_X6_above l1 l2 l3 l4 mi = some z → bv_Met yX6_above MX6_above bv_X0 d 74 74 [.ref 47, .int l1, .int l2, .int l3, .int l4] (bv_mr mi) mi (bv_QI z)) (hr_X6_work : ∀ (l1 : Int32) (l2 : Int32) (l3 : Int32) (mi : bv_Mem) (z : Int32 × bv_Mem), r_X6_work l1 l2 l3 mi = some z → bv_Met yX6_work MX6_work bv_X0 d 74 74 [.ref 47, .int l1, .int l2, .int l3] (bv_mr mi) mi (bv_QI z)) (l1 : Int32) (l2 : Int32) (l3 : Int32) (mi : bv_Mem) (z : Int32 × bv_Mem) (h : F_X6_own r_X6_own r_X6_above r_X6_work l1 l2 l3 mi = some z) : bv_Ev MX6_own bv_X0 (d + 1) 74 74 (bv_QI z) 0 [some (.ref 47), some (.int l1), some (.int l2), some (.int l3)] [] 74 (bv_mr mi) mi := by
  unfold F_X6_own at h
  refine ev_aload_n dX6_own_0 rfl ?_
  refine ev_aload_n dX6_own_1 rfl ?_
  refine ev_getI lf_X6_19 dX6_own_2 rfl rfl ?_
  refine ev_iload_n dX6_own_5 rfl ?_
  obtain ⟨z1, hz1, h⟩ := bv_bd h
  refine er_SP [.int _, .int _] (fun _ _ q => q) lk_X6_32 dX6_own_6 rfl rfl (Nat.ble_eq.mpr (by omega)) rfl (wm_X6_bodyFrom _ _ _ _ hz1) ?_
  refine ev_iload_n dX6_own_9 rfl ?_
  refine ev_iload_n dX6_own_10 rfl ?_
  obtain ⟨z2, hz2, h⟩ := bv_bd h
  refine er_VI [.int _, .int _, .int _] (fun _ _ q => q) lk_X6_36 dX6_own_11 rfl rfl rfl (Nat.ble_eq.mpr (Nat.le_refl _)) rfl (hr_X6_work _ _ _ _ _ hz2) ?_
  obtain rfl := Option.some.inj h
  exact ev_iret rfl dX6_own_14 ⟨rfl, rfl, rfl⟩
theorem wm_X6_own (r_X6_own : Int32 → Int32 → Int32 → bv_Mem → Option (Int32 × bv_Mem)) (r_X6_above : Int32 → Int32 → Int32 → Int32 → bv_Mem → Option (Int32 × bv_Mem)) (r_X6_work : Int32 → Int32 → Int32 → bv_Mem → Option (Int32 × bv_Mem)) (d : Nat) (hb : 1 ≤ d) (hr_X6_own : ∀ (l1 : Int32) (l2 : Int32) (l3 : Int32) (mi : bv_Mem) (z : Int32 × bv_Mem), r_X6_own l1 l2 l3 mi = some z → bv_Met yX6_own MX6_own bv_X0 d 74 74 [.ref 47, .int l1, .int l2, .int l3] (bv_mr mi) mi (bv_QI z)) (hr_X6_above : ∀ (l1 : Int32) (l2 : Int32) (l3 : Int32) (l4 : Int32) (mi : bv_Mem) (z : Int32 × bv_Mem), r_X6_above l1 l2 l3 l4 mi = some z → bv_Met yX6_above MX6_above bv_X0 d 74 74 [.ref 47, .int l1, .int l2, .int l3, .int l4] (bv_mr mi) mi (bv_QI z)) (hr_X6_work : ∀ (l1 : Int32) (l2 : Int32) (l3 : Int32) (mi : bv_Mem) (z : Int32 × bv_Mem), r_X6_work l1 l2 l3 mi = some z → bv_Met yX6_work MX6_work bv_X0 d 74 74 [.ref 47, .int l1, .int l2, .int l3] (bv_mr mi) mi (bv_QI z)) (l1 : Int32) (l2 : Int32) (l3 : Int32) (mi : bv_Mem) (z : Int32 × bv_Mem) (h : F_X6_own r_X6_own r_X6_above r_X6_work l1 l2 l3 mi = some z) : bv_Met yX6_own MX6_own bv_X0 (d + 1) 74 74 [.ref 47, .int l1, .int l2, .int l3] (bv_mr mi) mi (bv_QI z) :=
  bv_Met.of (pn_X 6 (by decide)) rfl (fun q => absurd q Bool.false_ne_true) (Nat.le_of_ble_eq_true rfl) (we_X6_own r_X6_own r_X6_above r_X6_work d hb hr_X6_own hr_X6_above hr_X6_work l1 l2 l3 mi z h)
set_option maxRecDepth 100000 in
set_option maxHeartbeats 4000000 in
theorem we_X6_above (r_X6_own : Int32 → Int32 → Int32 → bv_Mem → Option (Int32 × bv_Mem)) (r_X6_above : Int32 → Int32 → Int32 → Int32 → bv_Mem → Option (Int32 × bv_Mem)) (r_X6_work : Int32 → Int32 → Int32 → bv_Mem → Option (Int32 × bv_Mem)) (d : Nat) (hb : 1 ≤ d) (hr_X6_own : ∀ (l1 : Int32) (l2 : Int32) (l3 : Int32) (mi : bv_Mem) (z : Int32 × bv_Mem), r_X6_own l1 l2 l3 mi = some z → bv_Met yX6_own MX6_own bv_X0 d 74 74 [.ref 47, .int l1, .int l2, .int l3] (bv_mr mi) mi (bv_QI z)) (hr_X6_above : ∀ (l1 : Int32) (l2 : Int32) (l3 : Int32) (l4 : Int32) (mi : bv_Mem) (z : Int32 × bv_Mem), r_X6_above l1 l2 l3 l4 mi = some z → bv_Met yX6_above MX6_above bv_X0 d 74 74 [.ref 47, .int l1, .int l2, .int l3, .int l4] (bv_mr mi) mi (bv_QI z)) (hr_X6_work : ∀ (l1 : Int32) (l2 : Int32) (l3 : Int32) (mi : bv_Mem) (z : Int32 × bv_Mem), r_X6_work l1 l2 l3 mi = some z → bv_Met yX6_work MX6_work bv_X0 d 74 74 [.ref 47, .int l1, .int l2, .int l3] (bv_mr mi) mi (bv_QI z)) (l1 : Int32) (l2 : Int32) (l3 : Int32) (l4 : Int32) (mi : bv_Mem) (z : Int32 × bv_Mem) (h : F_X6_above r_X6_own r_X6_above r_X6_work l1 l2 l3 l4 mi = some z) : bv_Ev MX6_above bv_X0 (d + 1) 74 74 (bv_QI z) 0 [some (.ref 47), some (.int l1), some (.int l2), some (.int l3), some (.int l4)] [] 74 (bv_mr mi) mi := by
  unfold F_X6_above at h
  refine ev_aload_n dX6_above_0 rfl ?_
  refine ev_gets (j := 1) dX6_above_1 (by decide) ls_X6_39 ?_
  refine ev_iload_n dX6_above_4 rfl ?_
  refine ev_bipush (10 : Int32) dX6_above_5 (by decide) ?_
  refine ev_idiv dX6_above_7 (by decide) ?_
  refine ev_iconst (1 : Int32) dX6_above_8 (by decide) ?_
  refine ev_isub dX6_above_9 ?_
  obtain ⟨g1, h⟩ := bv_gd h
  refine ev_xld (j := 1) (N := 7) (f := bv_x1) dX6_above_10 rfl g1 ?_
  refine ev_iload_n dX6_above_11 rfl ?_
  obtain ⟨z1, hz1, h⟩ := bv_bd h
  refine er_SP [.int _, .int _] (fun _ _ q => q) lk_X6_32 dX6_above_12 rfl rfl (Nat.ble_eq.mpr (by omega)) rfl (wm_X6_bodyFrom _ _ _ _ hz1) ?_
  refine ev_iload_n dX6_above_15 rfl ?_
  refine ev_iload dX6_above_16 rfl ?_
  obtain ⟨z2, hz2, h⟩ := bv_bd h
  refine er_VI [.int _, .int _, .int _] (fun _ _ q => q) lk_X6_36 dX6_above_18 rfl rfl rfl (Nat.ble_eq.mpr (Nat.le_refl _)) rfl (hr_X6_work _ _ _ _ _ hz2) ?_
  obtain rfl := Option.some.inj h
  exact ev_iret rfl dX6_above_21 ⟨rfl, rfl, rfl⟩
theorem wm_X6_above (r_X6_own : Int32 → Int32 → Int32 → bv_Mem → Option (Int32 × bv_Mem)) (r_X6_above : Int32 → Int32 → Int32 → Int32 → bv_Mem → Option (Int32 × bv_Mem)) (r_X6_work : Int32 → Int32 → Int32 → bv_Mem → Option (Int32 × bv_Mem)) (d : Nat) (hb : 1 ≤ d) (hr_X6_own : ∀ (l1 : Int32) (l2 : Int32) (l3 : Int32) (mi : bv_Mem) (z : Int32 × bv_Mem), r_X6_own l1 l2 l3 mi = some z → bv_Met yX6_own MX6_own bv_X0 d 74 74 [.ref 47, .int l1, .int l2, .int l3] (bv_mr mi) mi (bv_QI z)) (hr_X6_above : ∀ (l1 : Int32) (l2 : Int32) (l3 : Int32) (l4 : Int32) (mi : bv_Mem) (z : Int32 × bv_Mem), r_X6_above l1 l2 l3 l4 mi = some z → bv_Met yX6_above MX6_above bv_X0 d 74 74 [.ref 47, .int l1, .int l2, .int l3, .int l4] (bv_mr mi) mi (bv_QI z)) (hr_X6_work : ∀ (l1 : Int32) (l2 : Int32) (l3 : Int32) (mi : bv_Mem) (z : Int32 × bv_Mem), r_X6_work l1 l2 l3 mi = some z → bv_Met yX6_work MX6_work bv_X0 d 74 74 [.ref 47, .int l1, .int l2, .int l3] (bv_mr mi) mi (bv_QI z)) (l1 : Int32) (l2 : Int32) (l3 : Int32) (l4 : Int32) (mi : bv_Mem) (z : Int32 × bv_Mem) (h : F_X6_above r_X6_own r_X6_above r_X6_work l1 l2 l3 l4 mi = some z) : bv_Met yX6_above MX6_above bv_X0 (d + 1) 74 74 [.ref 47, .int l1, .int l2, .int l3, .int l4] (bv_mr mi) mi (bv_QI z) :=
  bv_Met.of (pn_X 6 (by decide)) rfl (fun q => absurd q Bool.false_ne_true) (Nat.le_of_ble_eq_true rfl) (we_X6_above r_X6_own r_X6_above r_X6_work d hb hr_X6_own hr_X6_above hr_X6_work l1 l2 l3 l4 mi z h)
set_option maxRecDepth 100000 in
set_option maxHeartbeats 4000000 in
theorem we_X6_begin   (l1 : Int32) (mi : bv_Mem) (z : bv_Mem) (h : f_X6_begin  l1 mi = some z) : bv_Ev MX6_begin bv_X0 0 74 74 (bv_QV z) 0 [some (.ref 47), some (.int l1)] [] 74 (bv_mr mi) mi := by
  unfold f_X6_begin at h
  refine ev_aload_n dX6_begin_0 rfl ?_
  refine ev_getI lf_X6_15 dX6_begin_1 rfl rfl ?_
  refine ev_bipush (40 : Int32) dX6_begin_4 (by decide) ?_
  refine ev_icmp_ge 29 dX6_begin_6 (by decide) (fun c1 => ?_) (fun c1 => ?_)
  · replace h := bv_tt c1 h
    obtain rfl := Option.some.inj h
    exact ev_vret rfl dX6_begin_29 ⟨rfl, rfl, rfl⟩
  · replace h := bv_ff c1 h
    refine ev_aload_n dX6_begin_9 rfl ?_
    refine ev_getR 48 lf_X6_9 dX6_begin_10 rfl rfl rfl ?_
    refine ev_aload_n dX6_begin_13 rfl ?_
    refine ev_getI lf_X6_15 dX6_begin_14 rfl rfl ?_
    refine ev_iload_n dX6_begin_17 rfl ?_
    obtain ⟨g1, h⟩ := bv_gd h
    refine er_iast (N := 40) dX6_begin_18 rfl g1 ?_
    refine ev_aload_n dX6_begin_19 rfl ?_
    refine ev_dup dX6_begin_20 rfl ?_
    refine ev_getI lf_X6_15 dX6_begin_21 rfl rfl ?_
    refine ev_iconst (1 : Int32) dX6_begin_24 (by decide) ?_
    refine ev_iadd dX6_begin_25 ?_
    refine er_putI lf_X6_15 dX6_begin_26 rfl rfl rfl rfl ?_
    obtain rfl := Option.some.inj h
    exact ev_vret rfl dX6_begin_29 ⟨rfl, rfl, rfl⟩
theorem wm_X6_begin   (l1 : Int32) (mi : bv_Mem) (z : bv_Mem) (h : f_X6_begin  l1 mi = some z) : bv_Met yX6_begin MX6_begin bv_X0 0 74 74 [.ref 47, .int l1] (bv_mr mi) mi (bv_QV z) :=
  bv_Met.of (pn_X 6 (by decide)) rfl (fun q => absurd q Bool.false_ne_true) (Nat.le_of_ble_eq_true rfl) (we_X6_begin   l1 mi z h)
set_option maxRecDepth 100000 in
set_option maxHeartbeats 4000000 in
theorem we_X6_work (r_X6_own : Int32 → Int32 → Int32 → bv_Mem → Option (Int32 × bv_Mem)) (r_X6_above : Int32 → Int32 → Int32 → Int32 → bv_Mem → Option (Int32 × bv_Mem)) (r_X6_work : Int32 → Int32 → Int32 → bv_Mem → Option (Int32 × bv_Mem)) (d : Nat) (hb : 1 ≤ d) (hr_X6_own : ∀ (l1 : Int32) (l2 : Int32) (l3 : Int32) (mi : bv_Mem) (z : Int32 × bv_Mem), r_X6_own l1 l2 l3 mi = some z → bv_Met yX6_own MX6_own bv_X0 d 74 74 [.ref 47, .int l1, .int l2, .int l3] (bv_mr mi) mi (bv_QI z)) (hr_X6_above : ∀ (l1 : Int32) (l2 : Int32) (l3 : Int32) (l4 : Int32) (mi : bv_Mem) (z : Int32 × bv_Mem), r_X6_above l1 l2 l3 l4 mi = some z → bv_Met yX6_above MX6_above bv_X0 d 74 74 [.ref 47, .int l1, .int l2, .int l3, .int l4] (bv_mr mi) mi (bv_QI z)) (hr_X6_work : ∀ (l1 : Int32) (l2 : Int32) (l3 : Int32) (mi : bv_Mem) (z : Int32 × bv_Mem), r_X6_work l1 l2 l3 mi = some z → bv_Met yX6_work MX6_work bv_X0 d 74 74 [.ref 47, .int l1, .int l2, .int l3] (bv_mr mi) mi (bv_QI z)) (l1 : Int32) (l2 : Int32) (l3 : Int32) (mi : bv_Mem) (z : Int32 × bv_Mem) (h : F_X6_work r_X6_own r_X6_above r_X6_work l1 l2 l3 mi = some z) : bv_Ev MX6_work bv_X0 (d + 1) 74 74 (bv_QI z) 0 [some (.ref 47), some (.int l1), some (.int l2), some (.int l3), none] [] 74 (bv_mr mi) mi := by
  unfold F_X6_work at h
  refine ev_iload_n dX6_work_0 rfl ?_
  refine ev_bipush (20 : Int32) dX6_work_1 (by decide) ?_
  refine ev_icmp_le 8 dX6_work_3 (by decide) (fun c1 => ?_) (fun c1 => ?_)
  · replace h := bv_tt c1 h
    refine ev_aload_n dX6_work_8 rfl ?_
    refine ev_iload_n dX6_work_9 rfl ?_
    obtain ⟨z1, hz1, h⟩ := bv_bd h
    refine er_VV [.int _] (fun _ _ q => q) lk_X6_45 dX6_work_10 rfl rfl rfl (Nat.ble_eq.mpr (by omega)) rfl (wm_X6_begin _ _ _ hz1) ?_
    refine ev_iload_n dX6_work_13 rfl ?_
    refine ev_iconst (1 : Int32) dX6_work_14 (by decide) ?_
    refine ev_iadd dX6_work_15 ?_
    refine ev_istore dX6_work_16 rfl rfl ?_
    refine ev_iload_n dX6_work_18 rfl ?_
    by_cases c2 : l1 = (10 : Int32)
    · replace h := bv_tt c2 h
      refine ev_lookup (97) 116 dX6_work_19 (by decide) (by rw [c2]; decide) (by decide) ?_
      refine ev_iload_n dX6_work_116 rfl ?_
      refine ev_aload_n dX6_work_117 rfl ?_
      refine ev_getI lf_X6_22 dX6_work_118 rfl rfl ?_
      refine ev_iadd dX6_work_121 ?_
      obtain rfl := Option.some.inj h
      exact ev_iret rfl dX6_work_122 ⟨rfl, rfl, rfl⟩
    replace h := bv_ff c2 h
    by_cases c3 : l1 = (11 : Int32)
    · replace h := bv_tt c3 h
      refine ev_lookup (104) 123 dX6_work_19 (by decide) (by rw [c3]; decide) (by decide) ?_
      refine ev_aload_n dX6_work_123 rfl ?_
      refine ev_iconst (0 : Int32) dX6_work_124 (by decide) ?_
      refine ev_iload_n dX6_work_125 rfl ?_
      refine ev_iload dX6_work_126 rfl ?_
      obtain ⟨z2, hz2, h⟩ := bv_bd h
      refine er_VI [.int _, .int _, .int _] (fun _ _ q => q) lk_X6_28 dX6_work_128 rfl rfl rfl (Nat.ble_eq.mpr (Nat.le_refl _)) rfl (hr_X6_own _ _ _ _ _ hz2) ?_
      refine ev_iconst (2 : Int32) dX6_work_131 (by decide) ?_
      refine ev_imul dX6_work_132 ?_
      obtain rfl := Option.some.inj h
      exact ev_iret rfl dX6_work_133 ⟨rfl, rfl, rfl⟩
    replace h := bv_ff c3 h
    by_cases c4 : l1 = (12 : Int32)
    · replace h := bv_tt c4 h
      refine ev_lookup (115) 134 dX6_work_19 (by decide) (by rw [c4]; decide) (by decide) ?_
      refine ev_iload_n dX6_work_134 rfl ?_
      refine ev_aload_n dX6_work_135 rfl ?_
      refine ev_getI lf_X6_25 dX6_work_136 rfl rfl ?_
      refine ev_isub dX6_work_139 ?_
      obtain rfl := Option.some.inj h
      exact ev_iret rfl dX6_work_140 ⟨rfl, rfl, rfl⟩
    replace h := bv_ff c4 h
    by_cases c5 : l1 = (13 : Int32)
    · replace h := bv_tt c5 h
      refine ev_lookup (122) 141 dX6_work_19 (by decide) (by rw [c5]; decide) (by decide) ?_
      refine ev_aload_n dX6_work_141 rfl ?_
      refine ev_iconst (1 : Int32) dX6_work_142 (by decide) ?_
      refine ev_iload_n dX6_work_143 rfl ?_
      refine ev_iload dX6_work_144 rfl ?_
      obtain ⟨z3, hz3, h⟩ := bv_bd h
      refine er_VI [.int _, .int _, .int _] (fun _ _ q => q) lk_X6_28 dX6_work_146 rfl rfl rfl (Nat.ble_eq.mpr (Nat.le_refl _)) rfl (hr_X6_own _ _ _ _ _ hz3) ?_
      refine ev_aload_n dX6_work_149 rfl ?_
      refine ev_iconst (2 : Int32) dX6_work_150 (by decide) ?_
      refine ev_iload_n dX6_work_151 rfl ?_
      refine ev_iload dX6_work_152 rfl ?_
      obtain ⟨z4, hz4, h⟩ := bv_bd h
      refine er_VI [.int _, .int _, .int _] (fun _ _ q => q) lk_X6_28 dX6_work_154 rfl rfl rfl (Nat.ble_eq.mpr (Nat.le_refl _)) rfl (hr_X6_own _ _ _ _ _ hz4) ?_
      refine ev_ixor dX6_work_157 ?_
      obtain rfl := Option.some.inj h
      exact ev_iret rfl dX6_work_158 ⟨rfl, rfl, rfl⟩
    replace h := bv_ff c5 h
    by_cases c6 : l1 = (20 : Int32)
    · replace h := bv_tt c6 h
      refine ev_lookup (140) 159 dX6_work_19 (by decide) (by rw [c6]; decide) (by decide) ?_
      refine ev_aload_n dX6_work_159 rfl ?_
      refine ev_iload_n dX6_work_160 rfl ?_
      refine ev_iconst (0 : Int32) dX6_work_161 (by decide) ?_
      refine ev_iload_n dX6_work_162 rfl ?_
      refine ev_iload dX6_work_163 rfl ?_
      obtain ⟨z5, hz5, h⟩ := bv_bd h
      refine er_VI [.int _, .int _, .int _, .int _] (fun _ _ q => q) lk_X6_49 dX6_work_165 rfl rfl rfl (Nat.ble_eq.mpr (Nat.le_refl _)) rfl (hr_X6_above _ _ _ _ _ _ hz5) ?_
      refine ev_iconst (3 : Int32) dX6_work_168 (by decide) ?_
      refine ev_imul dX6_work_169 ?_
      obtain rfl := Option.some.inj h
      exact ev_iret rfl dX6_work_170 ⟨rfl, rfl, rfl⟩
    replace h := bv_ff c6 h
    by_cases c7 : l1 = (30 : Int32)
    · replace h := bv_tt c7 h
      refine ev_lookup (152) 171 dX6_work_19 (by decide) (by rw [c7]; decide) (by decide) ?_
      refine ev_aload_n dX6_work_171 rfl ?_
      refine ev_iload_n dX6_work_172 rfl ?_
      refine ev_iconst (1 : Int32) dX6_work_173 (by decide) ?_
      refine ev_iload_n dX6_work_174 rfl ?_
      refine ev_iload dX6_work_175 rfl ?_
      obtain ⟨z6, hz6, h⟩ := bv_bd h
      refine er_VI [.int _, .int _, .int _, .int _] (fun _ _ q => q) lk_X6_49 dX6_work_177 rfl rfl rfl (Nat.ble_eq.mpr (Nat.le_refl _)) rfl (hr_X6_above _ _ _ _ _ _ hz6) ?_
      refine ev_aload_n dX6_work_180 rfl ?_
      refine ev_iconst (2 : Int32) dX6_work_181 (by decide) ?_
      refine ev_iconst (1 : Int32) dX6_work_182 (by decide) ?_
      refine ev_iload dX6_work_183 rfl ?_
      obtain ⟨z7, hz7, h⟩ := bv_bd h
      refine er_VI [.int _, .int _, .int _] (fun _ _ q => q) lk_X6_28 dX6_work_185 rfl rfl rfl (Nat.ble_eq.mpr (Nat.le_refl _)) rfl (hr_X6_own _ _ _ _ _ hz7) ?_
      refine ev_isub dX6_work_188 ?_
      obtain rfl := Option.some.inj h
      exact ev_iret rfl dX6_work_189 ⟨rfl, rfl, rfl⟩
    replace h := bv_ff c7 h
    by_cases c8 : l1 = (40 : Int32)
    · replace h := bv_tt c8 h
      refine ev_lookup (171) 190 dX6_work_19 (by decide) (by rw [c8]; decide) (by decide) ?_
      refine ev_aload_n dX6_work_190 rfl ?_
      refine ev_iload_n dX6_work_191 rfl ?_
      refine ev_iconst (2 : Int32) dX6_work_192 (by decide) ?_
      refine ev_iload_n dX6_work_193 rfl ?_
      refine ev_iload dX6_work_194 rfl ?_
      obtain ⟨z8, hz8, h⟩ := bv_bd h
      refine er_VI [.int _, .int _, .int _, .int _] (fun _ _ q => q) lk_X6_49 dX6_work_196 rfl rfl rfl (Nat.ble_eq.mpr (Nat.le_refl _)) rfl (hr_X6_above _ _ _ _ _ _ hz8) ?_
      refine ev_ineg dX6_work_199 ?_
      obtain rfl := Option.some.inj h
      exact ev_iret rfl dX6_work_200 ⟨rfl, rfl, rfl⟩
    replace h := bv_ff c8 h
    by_cases c9 : l1 = (50 : Int32)
    · replace h := bv_tt c9 h
      refine ev_lookup (182) 201 dX6_work_19 (by decide) (by rw [c9]; decide) (by decide) ?_
      refine ev_aload_n dX6_work_201 rfl ?_
      refine ev_iload_n dX6_work_202 rfl ?_
      refine ev_iconst (3 : Int32) dX6_work_203 (by decide) ?_
      refine ev_iload_n dX6_work_204 rfl ?_
      refine ev_iload dX6_work_205 rfl ?_
      obtain ⟨z9, hz9, h⟩ := bv_bd h
      refine er_VI [.int _, .int _, .int _, .int _] (fun _ _ q => q) lk_X6_49 dX6_work_207 rfl rfl rfl (Nat.ble_eq.mpr (Nat.le_refl _)) rfl (hr_X6_above _ _ _ _ _ _ hz9) ?_
      refine ev_aload_n dX6_work_210 rfl ?_
      refine ev_iconst (0 : Int32) dX6_work_211 (by decide) ?_
      refine ev_iconst (2 : Int32) dX6_work_212 (by decide) ?_
      refine ev_iload dX6_work_213 rfl ?_
      obtain ⟨z10, hz10, h⟩ := bv_bd h
      refine er_VI [.int _, .int _, .int _] (fun _ _ q => q) lk_X6_28 dX6_work_215 rfl rfl rfl (Nat.ble_eq.mpr (Nat.le_refl _)) rfl (hr_X6_own _ _ _ _ _ hz10) ?_
      refine ev_isub dX6_work_218 ?_
      obtain rfl := Option.some.inj h
      exact ev_iret rfl dX6_work_219 ⟨rfl, rfl, rfl⟩
    replace h := bv_ff c9 h
    by_cases c10 : l1 = (60 : Int32)
    · replace h := bv_tt c10 h
      refine ev_lookup (201) 220 dX6_work_19 (by decide) (by rw [c10]; decide) (by decide) ?_
      refine ev_aload_n dX6_work_220 rfl ?_
      refine ev_iload_n dX6_work_221 rfl ?_
      refine ev_iconst (1 : Int32) dX6_work_222 (by decide) ?_
      refine ev_iload_n dX6_work_223 rfl ?_
      refine ev_iconst (1 : Int32) dX6_work_224 (by decide) ?_
      refine ev_iadd dX6_work_225 ?_
      refine ev_iload dX6_work_226 rfl ?_
      obtain ⟨z11, hz11, h⟩ := bv_bd h
      refine er_VI [.int _, .int _, .int _, .int _] (fun _ _ q => q) lk_X6_49 dX6_work_228 rfl rfl rfl (Nat.ble_eq.mpr (Nat.le_refl _)) rfl (hr_X6_above _ _ _ _ _ _ hz11) ?_
      obtain rfl := Option.some.inj h
      exact ev_iret rfl dX6_work_231 ⟨rfl, rfl, rfl⟩
    replace h := bv_ff c10 h
    by_cases c11 : l1 = (70 : Int32)
    · replace h := bv_tt c11 h
      refine ev_lookup (213) 232 dX6_work_19 (by decide) (by rw [c11]; decide) (by decide) ?_
      refine ev_aload_n dX6_work_232 rfl ?_
      refine ev_iload_n dX6_work_233 rfl ?_
      refine ev_iconst (2 : Int32) dX6_work_234 (by decide) ?_
      refine ev_iload_n dX6_work_235 rfl ?_
      refine ev_iload dX6_work_236 rfl ?_
      obtain ⟨z12, hz12, h⟩ := bv_bd h
      refine er_VI [.int _, .int _, .int _, .int _] (fun _ _ q => q) lk_X6_49 dX6_work_238 rfl rfl rfl (Nat.ble_eq.mpr (Nat.le_refl _)) rfl (hr_X6_above _ _ _ _ _ _ hz12) ?_
      refine ev_aload_n dX6_work_241 rfl ?_
      refine ev_getI lf_X6_22 dX6_work_242 rfl rfl ?_
      refine ev_ixor dX6_work_245 ?_
      obtain rfl := Option.some.inj h
      exact ev_iret rfl dX6_work_246 ⟨rfl, rfl, rfl⟩
    replace h := bv_ff c11 h
    by_cases c12 : l1 = (71 : Int32)
    · replace h := bv_tt c12 h
      refine ev_lookup (228) 247 dX6_work_19 (by decide) (by rw [c12]; decide) (by decide) ?_
      refine ev_aload_n dX6_work_247 rfl ?_
      refine ev_iconst (1 : Int32) dX6_work_248 (by decide) ?_
      refine ev_iload_n dX6_work_249 rfl ?_
      refine ev_iload dX6_work_250 rfl ?_
      obtain ⟨z13, hz13, h⟩ := bv_bd h
      refine er_VI [.int _, .int _, .int _] (fun _ _ q => q) lk_X6_28 dX6_work_252 rfl rfl rfl (Nat.ble_eq.mpr (Nat.le_refl _)) rfl (hr_X6_own _ _ _ _ _ hz13) ?_
      refine ev_aload_n dX6_work_255 rfl ?_
      refine ev_iload_n dX6_work_256 rfl ?_
      refine ev_iconst (3 : Int32) dX6_work_257 (by decide) ?_
      refine ev_iload_n dX6_work_258 rfl ?_
      refine ev_iload dX6_work_259 rfl ?_
      obtain ⟨z14, hz14, h⟩ := bv_bd h
      refine er_VI [.int _, .int _, .int _, .int _] (fun _ _ q => q) lk_X6_49 dX6_work_261 rfl rfl rfl (Nat.ble_eq.mpr (Nat.le_refl _)) rfl (hr_X6_above _ _ _ _ _ _ hz14) ?_
      refine ev_isub dX6_work_264 ?_
      obtain rfl := Option.some.inj h
      exact ev_iret rfl dX6_work_265 ⟨rfl, rfl, rfl⟩
    replace h := bv_ff c12 h
    refine ev_lookup (247) 266 dX6_work_19 (by decide) (bv_lo (List.forall_mem_cons.mpr ⟨bv_ne c2 (by decide), List.forall_mem_cons.mpr ⟨bv_ne c3 (by decide), List.forall_mem_cons.mpr ⟨bv_ne c4 (by decide), List.forall_mem_cons.mpr ⟨bv_ne c5 (by decide), List.forall_mem_cons.mpr ⟨bv_ne c6 (by decide), List.forall_mem_cons.mpr ⟨bv_ne c7 (by decide), List.forall_mem_cons.mpr ⟨bv_ne c8 (by decide), List.forall_mem_cons.mpr ⟨bv_ne c9 (by decide), List.forall_mem_cons.mpr ⟨bv_ne c10 (by decide), List.forall_mem_cons.mpr ⟨bv_ne c11 (by decide), List.forall_mem_cons.mpr ⟨bv_ne c12 (by decide), fun _ q => absurd q List.not_mem_nil⟩⟩⟩⟩⟩⟩⟩⟩⟩⟩⟩)) (by decide) ?_
    refine ev_iconst (0 : Int32) dX6_work_266 (by decide) ?_
    obtain rfl := Option.some.inj h
    exact ev_iret rfl dX6_work_267 ⟨rfl, rfl, rfl⟩
  · replace h := bv_ff c1 h
    refine ev_iconst (0 : Int32) dX6_work_6 (by decide) ?_
    obtain rfl := Option.some.inj h
    exact ev_iret rfl dX6_work_7 ⟨rfl, rfl, rfl⟩
theorem wm_X6_work (r_X6_own : Int32 → Int32 → Int32 → bv_Mem → Option (Int32 × bv_Mem)) (r_X6_above : Int32 → Int32 → Int32 → Int32 → bv_Mem → Option (Int32 × bv_Mem)) (r_X6_work : Int32 → Int32 → Int32 → bv_Mem → Option (Int32 × bv_Mem)) (d : Nat) (hb : 1 ≤ d) (hr_X6_own : ∀ (l1 : Int32) (l2 : Int32) (l3 : Int32) (mi : bv_Mem) (z : Int32 × bv_Mem), r_X6_own l1 l2 l3 mi = some z → bv_Met yX6_own MX6_own bv_X0 d 74 74 [.ref 47, .int l1, .int l2, .int l3] (bv_mr mi) mi (bv_QI z)) (hr_X6_above : ∀ (l1 : Int32) (l2 : Int32) (l3 : Int32) (l4 : Int32) (mi : bv_Mem) (z : Int32 × bv_Mem), r_X6_above l1 l2 l3 l4 mi = some z → bv_Met yX6_above MX6_above bv_X0 d 74 74 [.ref 47, .int l1, .int l2, .int l3, .int l4] (bv_mr mi) mi (bv_QI z)) (hr_X6_work : ∀ (l1 : Int32) (l2 : Int32) (l3 : Int32) (mi : bv_Mem) (z : Int32 × bv_Mem), r_X6_work l1 l2 l3 mi = some z → bv_Met yX6_work MX6_work bv_X0 d 74 74 [.ref 47, .int l1, .int l2, .int l3] (bv_mr mi) mi (bv_QI z)) (l1 : Int32) (l2 : Int32) (l3 : Int32) (mi : bv_Mem) (z : Int32 × bv_Mem) (h : F_X6_work r_X6_own r_X6_above r_X6_work l1 l2 l3 mi = some z) : bv_Met yX6_work MX6_work bv_X0 (d + 1) 74 74 [.ref 47, .int l1, .int l2, .int l3] (bv_mr mi) mi (bv_QI z) :=
  bv_Met.of (pn_X 6 (by decide)) rfl (fun q => absurd q Bool.false_ne_true) (Nat.le_of_ble_eq_true rfl) (we_X6_work r_X6_own r_X6_above r_X6_work d hb hr_X6_own hr_X6_above hr_X6_work l1 l2 l3 mi z h)
theorem wG_X6 : ∀ n : Nat, (∀ (l1 : Int32) (l2 : Int32) (l3 : Int32) (mi : bv_Mem) (z : Int32 × bv_Mem), (G_X6 n).1 l1 l2 l3 mi = some z → bv_Met yX6_own MX6_own bv_X0 (1 + n) 74 74 [.ref 47, .int l1, .int l2, .int l3] (bv_mr mi) mi (bv_QI z)) ∧ (∀ (l1 : Int32) (l2 : Int32) (l3 : Int32) (l4 : Int32) (mi : bv_Mem) (z : Int32 × bv_Mem), (G_X6 n).2.1 l1 l2 l3 l4 mi = some z → bv_Met yX6_above MX6_above bv_X0 (1 + n) 74 74 [.ref 47, .int l1, .int l2, .int l3, .int l4] (bv_mr mi) mi (bv_QI z)) ∧ (∀ (l1 : Int32) (l2 : Int32) (l3 : Int32) (mi : bv_Mem) (z : Int32 × bv_Mem), (G_X6 n).2.2 l1 l2 l3 mi = some z → bv_Met yX6_work MX6_work bv_X0 (1 + n) 74 74 [.ref 47, .int l1, .int l2, .int l3] (bv_mr mi) mi (bv_QI z)) := by
  intro n
  induction n with
  | zero => exact ⟨fun _ _ _ _ z h => absurd h (by simp [G_X6]), fun _ _ _ _ _ z h => absurd h (by simp [G_X6]), fun _ _ _ _ z h => absurd h (by simp [G_X6])⟩
  | succ n ih => exact ⟨fun l1 l2 l3 mi z h => wm_X6_own (G_X6 n).1 (G_X6 n).2.1 (G_X6 n).2.2 (1 + n) (Nat.le_add_right _ _) ih.1 ih.2.1 ih.2.2 l1 l2 l3 mi z h, fun l1 l2 l3 l4 mi z h => wm_X6_above (G_X6 n).1 (G_X6 n).2.1 (G_X6 n).2.2 (1 + n) (Nat.le_add_right _ _) ih.1 ih.2.1 ih.2.2 l1 l2 l3 l4 mi z h, fun l1 l2 l3 mi z h => wm_X6_work (G_X6 n).1 (G_X6 n).2.1 (G_X6 n).2.2 (1 + n) (Nat.le_add_right _ _) ih.1 ih.2.1 ih.2.2 l1 l2 l3 mi z h⟩
set_option maxRecDepth 100000 in
set_option maxHeartbeats 4000000 in
theorem we_X6_speak   (l1 : Int32) (l2 : Int32) (l3 : Int32) (l4 : Int32) (l5 : Int32) (mi : bv_Mem) (z : Int32 × bv_Mem) (h : f_X6_speak  l1 l2 l3 l4 l5 mi = some z) : bv_Ev MX6_speak bv_X0 62 74 74 (bv_QI z) 0 [some (.ref 47), some (.int l1), some (.int l2), some (.int l3), some (.int l4), some (.int l5)] [] 74 (bv_mr mi) mi := by
  unfold f_X6_speak at h
  refine ev_aload_n dX6_speak_0 rfl ?_
  refine ev_iconst (0 : Int32) dX6_speak_1 (by decide) ?_
  refine er_putI lf_X6_15 dX6_speak_2 rfl rfl rfl rfl ?_
  refine ev_aload_n dX6_speak_5 rfl ?_
  refine ev_iload_n dX6_speak_6 rfl ?_
  refine er_putI lf_X6_19 dX6_speak_7 rfl rfl rfl rfl ?_
  refine ev_aload_n dX6_speak_10 rfl ?_
  refine ev_iload_n dX6_speak_11 rfl ?_
  refine er_putI lf_X6_22 dX6_speak_12 rfl rfl rfl rfl ?_
  refine ev_aload_n dX6_speak_15 rfl ?_
  refine ev_iload_n dX6_speak_16 rfl ?_
  refine er_putI lf_X6_25 dX6_speak_17 rfl rfl rfl rfl ?_
  refine ev_aload_n dX6_speak_20 rfl ?_
  refine ev_iload dX6_speak_21 rfl ?_
  refine ev_iload dX6_speak_23 rfl ?_
  refine ev_iconst (0 : Int32) dX6_speak_25 (by decide) ?_
  obtain ⟨z1, hz1, h⟩ := bv_bd h
  refine er_VI [.int _, .int _, .int _] (fun _ _ q => q) lk_X6_28 dX6_speak_26 rfl rfl rfl rfl rfl ((wG_X6 60).1 _ _ _ _ _ hz1) ?_
  obtain rfl := Option.some.inj h
  exact ev_iret rfl dX6_speak_29 ⟨rfl, rfl, rfl⟩
theorem wm_X6_speak   (l1 : Int32) (l2 : Int32) (l3 : Int32) (l4 : Int32) (l5 : Int32) (mi : bv_Mem) (z : Int32 × bv_Mem) (h : f_X6_speak  l1 l2 l3 l4 l5 mi = some z) : bv_Met yX6_speak MX6_speak bv_X0 62 74 74 [.ref 47, .int l1, .int l2, .int l3, .int l4, .int l5] (bv_mr mi) mi (bv_QI z) :=
  bv_Met.of (pn_X 6 (by decide)) rfl (fun q => absurd q Bool.false_ne_true) (Nat.le_of_ble_eq_true rfl) (we_X6_speak   l1 l2 l3 l4 l5 mi z h)
set_option maxRecDepth 100000 in
set_option maxHeartbeats 4000000 in
theorem we_X7_voice   (l1 : Int32) (l2 : Int32) (l3 : Int32) (mi : bv_Mem) (z : Int32 × bv_Mem) (h : f_X7_voice  l1 l2 l3 mi = some z) : bv_Ev MX7_voice bv_X0 63 74 74 (bv_QI z) 0 [some (.ref 0), some (.int l1), some (.int l2), some (.int l3), none] [] 74 (bv_mr mi) mi := by
  unfold f_X7_voice at h
  refine ev_aload_n dX7_voice_0 rfl ?_
  refine ev_iload_n dX7_voice_1 rfl ?_
  obtain ⟨z1, hz1, h⟩ := bv_bd h
  refine er_VP [.int _] (fun _ _ q => q) lk_X7_132 dX7_voice_2 rfl rfl rfl rfl rfl (wm_X7_isBottle _ _ _ hz1) ?_
  refine ev_if_eq 17 dX7_voice_5 (by decide) (fun c1 => ?_) (fun c1 => ?_)
  · replace h := bv_tt c1 h
    refine ev_aload_n dX7_voice_17 rfl ?_
    refine ev_iconst (1 : Int32) dX7_voice_18 (by decide) ?_
    obtain ⟨z2, hz2, h⟩ := bv_bd h
    refine er_VI [.int _] (fun _ _ q => q) lk_X7_62 dX7_voice_19 rfl rfl rfl rfl rfl (wm_X7_error _ _ _ hz2) ?_
    obtain rfl := Option.some.inj h
    exact ev_iret rfl dX7_voice_22 ⟨rfl, rfl, rfl⟩
  · replace h := bv_ff c1 h
    refine ev_iload_n dX7_voice_8 rfl ?_
    refine ev_iconst (0 : Int32) dX7_voice_9 (by decide) ?_
    refine ev_iconst (3 : Int32) dX7_voice_10 (by decide) ?_
    obtain ⟨z3, hz3, h⟩ := bv_bd h
    refine er_SP [.int _, .int _, .int _] (fun _ _ q => q) lk_X7_58 dX7_voice_11 rfl rfl rfl rfl (wm_X7_isWithin _ _ _ _ _ hz3) ?_
    refine ev_if_ne 23 dX7_voice_14 (by decide) (fun c2 => ?_) (fun c2 => ?_)
    · replace h := bv_ff c2 h
      refine ev_aload_n dX7_voice_23 rfl ?_
      refine ev_getR 1 lf_X7_10 dX7_voice_24 rfl rfl rfl ?_
      refine ev_getR 6 lf_X7_122 dX7_voice_27 rfl rfl rfl ?_
      refine ev_iload_n dX7_voice_30 rfl ?_
      obtain ⟨g1, h⟩ := bv_gd h
      obtain ⟨q1, hq1, h⟩ := bv_bd h
      refine er_aald (N := 8) q1 dX7_voice_31 rfl g1 hq1 ?_
      refine ev_astore dX7_voice_32 rfl rfl ?_
      refine ev_aload_n dX7_voice_34 rfl ?_
      refine ev_getR 47 lf_X7_33 dX7_voice_35 rfl rfl rfl ?_
      refine ev_aload dX7_voice_38 rfl ?_
      obtain ⟨g2, h⟩ := bv_gd h
      refine ev_getI lf_X7_135 dX7_voice_40 g2 rfl ?_
      refine ev_iload_n dX7_voice_43 rfl ?_
      refine ev_aload dX7_voice_44 rfl ?_
      refine ev_getI lf_X7_138 dX7_voice_46 g2 rfl ?_
      refine ev_iload_n dX7_voice_49 rfl ?_
      refine ev_iload_n dX7_voice_50 rfl ?_
      obtain ⟨z4, hz4, h⟩ := bv_bd h
      refine er_VI [.int _, .int _, .int _, .int _, .int _] (fun _ _ q => q) lk_X7_248 dX7_voice_51 rfl rfl rfl rfl rfl (wm_X6_speak _ _ _ _ _ _ _ hz4) ?_
      obtain rfl := Option.some.inj h
      exact ev_iret rfl dX7_voice_54 ⟨rfl, rfl, rfl⟩
    · replace h := bv_tt c2 h
      refine ev_aload_n dX7_voice_17 rfl ?_
      refine ev_iconst (1 : Int32) dX7_voice_18 (by decide) ?_
      obtain ⟨z5, hz5, h⟩ := bv_bd h
      refine er_VI [.int _] (fun _ _ q => q) lk_X7_62 dX7_voice_19 rfl rfl rfl rfl rfl (wm_X7_error _ _ _ hz5) ?_
      obtain rfl := Option.some.inj h
      exact ev_iret rfl dX7_voice_22 ⟨rfl, rfl, rfl⟩
theorem wm_X7_voice   (l1 : Int32) (l2 : Int32) (l3 : Int32) (mi : bv_Mem) (z : Int32 × bv_Mem) (h : f_X7_voice  l1 l2 l3 mi = some z) : bv_Met yX7_voice MX7_voice bv_X0 63 74 74 [.ref 0, .int l1, .int l2, .int l3] (bv_mr mi) mi (bv_QI z) :=
  bv_Met.of (pn_X 7 (by decide)) rfl (fun q => absurd q Bool.false_ne_true) (Nat.le_of_ble_eq_true rfl) (we_X7_voice   l1 l2 l3 mi z h)
set_option maxRecDepth 100000 in
set_option maxHeartbeats 4000000 in
theorem we_X7_trace   (l1 : Int32) (mi : bv_Mem) (z : Int32 × bv_Mem) (h : f_X7_trace  l1 mi = some z) : bv_Ev MX7_trace bv_X0 1 74 74 (bv_QI z) 0 [some (.ref 0), some (.int l1)] [] 74 (bv_mr mi) mi := by
  unfold f_X7_trace at h
  refine ev_iload_n dX7_trace_0 rfl ?_
  refine ev_iconst (0 : Int32) dX7_trace_1 (by decide) ?_
  refine ev_aload_n dX7_trace_2 rfl ?_
  refine ev_getR 47 lf_X7_33 dX7_trace_3 rfl rfl rfl ?_
  refine ev_getI lf_X7_252 dX7_trace_6 rfl rfl ?_
  refine ev_iconst (1 : Int32) dX7_trace_9 (by decide) ?_
  refine ev_isub dX7_trace_10 ?_
  obtain ⟨z1, hz1, h⟩ := bv_bd h
  refine er_SP [.int _, .int _, .int _] (fun _ _ q => q) lk_X7_58 dX7_trace_11 rfl rfl rfl rfl (wm_X7_isWithin _ _ _ _ _ hz1) ?_
  refine ev_if_ne 23 dX7_trace_14 (by decide) (fun c1 => ?_) (fun c1 => ?_)
  · replace h := bv_ff c1 h
    refine ev_aload_n dX7_trace_23 rfl ?_
    refine ev_getR 47 lf_X7_33 dX7_trace_24 rfl rfl rfl ?_
    refine ev_getR 48 lf_X7_255 dX7_trace_27 rfl rfl rfl ?_
    refine ev_iload_n dX7_trace_30 rfl ?_
    obtain ⟨g1, h⟩ := bv_gd h
    refine ev_iald (N := 40) dX7_trace_31 rfl g1 ?_
    obtain rfl := Option.some.inj h
    exact ev_iret rfl dX7_trace_32 ⟨rfl, rfl, rfl⟩
  · replace h := bv_tt c1 h
    refine ev_aload_n dX7_trace_17 rfl ?_
    refine ev_iconst (2 : Int32) dX7_trace_18 (by decide) ?_
    obtain ⟨z2, hz2, h⟩ := bv_bd h
    refine er_VI [.int _] (fun _ _ q => q) lk_X7_62 dX7_trace_19 rfl rfl rfl rfl rfl (wm_X7_error _ _ _ hz2) ?_
    obtain rfl := Option.some.inj h
    exact ev_iret rfl dX7_trace_22 ⟨rfl, rfl, rfl⟩
theorem wm_X7_trace   (l1 : Int32) (mi : bv_Mem) (z : Int32 × bv_Mem) (h : f_X7_trace  l1 mi = some z) : bv_Met yX7_trace MX7_trace bv_X0 1 74 74 [.ref 0, .int l1] (bv_mr mi) mi (bv_QI z) :=
  bv_Met.of (pn_X 7 (by decide)) rfl (fun q => absurd q Bool.false_ne_true) (Nat.le_of_ble_eq_true rfl) (we_X7_trace   l1 mi z h)
set_option maxRecDepth 100000 in
set_option maxHeartbeats 4000000 in
theorem wb_X3_startWith_20  : ∀ (fu : Nat) (l0 : Nat) (l3 : Int32) (mi : bv_Mem) (z : bv_Mem), b_X3_startWith_20 fu l0 l3 mi = some z → bv_Ev MX3_startWith bv_X0 0 74 74 (bv_QV z) 20 [some (.ref l0), none, none, some (.int l3)] [] 74 (bv_mr mi) mi := by
  intro fu
  induction fu with
  | zero =>
    intro l0 l3 mi z h
    rw [b_X3_startWith_20] at h
    cases h
  | succ fu ih =>
    intro l0 l3 mi z h
    rw [b_X3_startWith_20] at h
    refine ev_iload_n dX3_startWith_20 rfl ?_
    refine ev_bipush (40 : Int32) dX3_startWith_21 (by decide) ?_
    refine ev_icmp_ge 39 dX3_startWith_23 (by decide) (fun c1 => ?_) (fun c1 => ?_)
    · replace h := bv_tt c1 h
      obtain rfl := Option.some.inj h
      exact ev_vret rfl dX3_startWith_39 ⟨rfl, rfl, rfl⟩
    · replace h := bv_ff c1 h
      refine ev_aload_n dX3_startWith_26 rfl ?_
      obtain ⟨g1, h⟩ := bv_gd h
      obtain ⟨q1, hq1, h⟩ := bv_bd h
      refine er_getRq q1 lf_X3_18 dX3_startWith_27 g1 rfl rfl hq1 ?_
      refine ev_iload_n dX3_startWith_30 rfl ?_
      refine ev_iconst (0 : Int32) dX3_startWith_31 (by decide) ?_
      obtain ⟨g2, h⟩ := bv_gd h
      obtain ⟨g3, h⟩ := bv_gd h
      refine er_iast (N := (bv_len q1)) dX3_startWith_32 g2 g3 ?_
      refine ev_iinc (l3 + 1) dX3_startWith_33 rfl rfl rfl rfl ?_
      refine ev_goto 20 dX3_startWith_36 (by decide) ?_
      exact ev_weak (by exact And.intro rfl (And.intro rfl (trivial))) (ih _ _ _ _ h)
set_option maxRecDepth 100000 in
set_option maxHeartbeats 4000000 in
theorem we_X3_startWith   (l0 : Nat) (l1 : Int32) (l2 : Int32) (mi : bv_Mem) (z : bv_Mem) (h : f_X3_startWith  l0 l1 l2 mi = some z) : bv_Ev MX3_startWith bv_X0 0 74 74 (bv_QV z) 0 [some (.ref l0), some (.int l1), some (.int l2), none] [] 74 (bv_mr mi) mi := by
  unfold f_X3_startWith at h
  refine ev_aload_n dX3_startWith_0 rfl ?_
  refine ev_iload_n dX3_startWith_1 rfl ?_
  obtain ⟨g1, h⟩ := bv_gd h
  refine er_putI lf_X3_9 dX3_startWith_2 g1 rfl rfl rfl ?_
  refine ev_aload_n dX3_startWith_5 rfl ?_
  refine ev_iload_n dX3_startWith_6 rfl ?_
  refine ev_if_ne 14 dX3_startWith_7 (by decide) (fun c1 => ?_) (fun c1 => ?_)
  · replace h := bv_ff c1 h
    refine ev_iload_n dX3_startWith_14 rfl ?_
    refine er_putI lf_X3_15 dX3_startWith_15 g1 rfl rfl rfl ?_
    refine ev_iconst (0 : Int32) dX3_startWith_18 (by decide) ?_
    refine ev_istore_n dX3_startWith_19 rfl rfl ?_
    exact ev_weak (by exact And.intro rfl (And.intro rfl (trivial))) (wb_X3_startWith_20  400 _ _ _ _ h)
  · replace h := bv_tt c1 h
    refine ev_iconst (0 : Int32) dX3_startWith_10 (by decide) ?_
    refine ev_goto 15 dX3_startWith_11 (by decide) ?_
    refine er_putI lf_X3_15 dX3_startWith_15 g1 rfl rfl rfl ?_
    refine ev_iconst (0 : Int32) dX3_startWith_18 (by decide) ?_
    refine ev_istore_n dX3_startWith_19 rfl rfl ?_
    exact ev_weak (by exact And.intro rfl (And.intro rfl (trivial))) (wb_X3_startWith_20  400 _ _ _ _ h)
theorem wm_X3_startWith   (l0 : Nat) (l1 : Int32) (l2 : Int32) (mi : bv_Mem) (z : bv_Mem) (h : f_X3_startWith  l0 l1 l2 mi = some z) : bv_Met yX3_startWith MX3_startWith bv_X0 0 74 74 [.ref l0, .int l1, .int l2] (bv_mr mi) mi (bv_QV z) :=
  bv_Met.of (pn_X 3 (by decide)) rfl (fun q => absurd q Bool.false_ne_true) (Nat.le_of_ble_eq_true rfl) (we_X3_startWith   l0 l1 l2 mi z h)
set_option maxRecDepth 100000 in
set_option maxHeartbeats 4000000 in
theorem we_X7_isSheet   (l0 : Int32) (mi : bv_Mem) (z : Int32) (h : f_X7_isSheet  l0 mi = some z) : bv_Ev MX7_isSheet bv_X0 1 74 74 (bv_QP z mi) 0 [some (.int l0)] [] 74 (bv_mr mi) mi := by
  unfold f_X7_isSheet at h
  refine ev_iload_n dX7_isSheet_0 rfl ?_
  refine ev_iconst (0 : Int32) dX7_isSheet_1 (by decide) ?_
  refine ev_iconst (3 : Int32) dX7_isSheet_2 (by decide) ?_
  obtain ⟨z1, hz1, h⟩ := bv_bd h
  refine er_SP [.int _, .int _, .int _] (fun _ _ q => q) lk_X7_58 dX7_isSheet_3 rfl rfl rfl rfl (wm_X7_isWithin _ _ _ _ _ hz1) ?_
  obtain ⟨g1, h⟩ := bv_gd h
  obtain rfl := Option.some.inj h
  exact ev_zret rfl g1 dX7_isSheet_6 ⟨rfl, rfl, rfl⟩
theorem wm_X7_isSheet   (l0 : Int32) (mi : bv_Mem) (z : Int32) (h : f_X7_isSheet  l0 mi = some z) : bv_Met yX7_isSheet MX7_isSheet bv_X0 1 74 74 [.int l0] (bv_mr mi) mi (bv_QP z mi) :=
  bv_Met.of (pn_X 7 (by decide)) rfl (fun q => absurd q Bool.false_ne_true) (Nat.le_of_ble_eq_true rfl) (we_X7_isSheet   l0 mi z h)
set_option maxRecDepth 100000 in
set_option maxHeartbeats 4000000 in
theorem wb_X7_sheet_49  (l1 : Int32) (l2 : Int32) (l3 : Int32) (mi : bv_Mem) (z : Int32 × bv_Mem) (h : b_X7_sheet_49 l1 l2 l3 mi = some z) : bv_Ev MX7_sheet bv_X0 2 74 74 (bv_QI z) 49 [some (.ref 0), some (.int l1), some (.int l2), some (.int l3)] [] 74 (bv_mr mi) mi := by
  unfold b_X7_sheet_49 at h
  refine ev_iload_n dX7_sheet_49 rfl ?_
  refine ev_if_eq 65 dX7_sheet_50 (by decide) (fun c1 => ?_) (fun c1 => ?_)
  · replace h := bv_tt c1 h
    refine ev_aload_n dX7_sheet_65 rfl ?_
    refine ev_getR 49 lf_X7_39 dX7_sheet_66 rfl rfl rfl ?_
    refine ev_iload_n dX7_sheet_69 rfl ?_
    obtain ⟨g1, h⟩ := bv_gd h
    obtain ⟨q1, hq1, h⟩ := bv_bd h
    refine er_aald (N := 4) q1 dX7_sheet_70 rfl g1 hq1 ?_
    refine ev_iload_n dX7_sheet_71 rfl ?_
    refine ev_iload_n dX7_sheet_72 rfl ?_
    obtain ⟨g2, h⟩ := bv_gd h
    obtain ⟨z1, hz1, h⟩ := bv_bd h
    refine er_VV [.int _, .int _] (fun _ _ q => q) lk_X7_261 dX7_sheet_73 rfl rfl g2 rfl rfl (wm_X3_startWith _ _ _ _ _ hz1) ?_
    refine ev_iconst (1 : Int32) dX7_sheet_76 (by decide) ?_
    obtain rfl := Option.some.inj h
    exact ev_iret rfl dX7_sheet_77 ⟨rfl, rfl, rfl⟩
  · replace h := bv_ff c1 h
    refine ev_iload_n dX7_sheet_53 rfl ?_
    refine ev_bipush (40 : Int32) dX7_sheet_54 (by decide) ?_
    refine ev_icmp_le 65 dX7_sheet_56 (by decide) (fun c2 => ?_) (fun c2 => ?_)
    · replace h := bv_tt c2 h
      refine ev_aload_n dX7_sheet_65 rfl ?_
      refine ev_getR 49 lf_X7_39 dX7_sheet_66 rfl rfl rfl ?_
      refine ev_iload_n dX7_sheet_69 rfl ?_
      obtain ⟨g3, h⟩ := bv_gd h
      obtain ⟨q2, hq2, h⟩ := bv_bd h
      refine er_aald (N := 4) q2 dX7_sheet_70 rfl g3 hq2 ?_
      refine ev_iload_n dX7_sheet_71 rfl ?_
      refine ev_iload_n dX7_sheet_72 rfl ?_
      obtain ⟨g4, h⟩ := bv_gd h
      obtain ⟨z2, hz2, h⟩ := bv_bd h
      refine er_VV [.int _, .int _] (fun _ _ q => q) lk_X7_261 dX7_sheet_73 rfl rfl g4 rfl rfl (wm_X3_startWith _ _ _ _ _ hz2) ?_
      refine ev_iconst (1 : Int32) dX7_sheet_76 (by decide) ?_
      obtain rfl := Option.some.inj h
      exact ev_iret rfl dX7_sheet_77 ⟨rfl, rfl, rfl⟩
    · replace h := bv_ff c2 h
      refine ev_aload_n dX7_sheet_59 rfl ?_
      refine ev_iconst (1 : Int32) dX7_sheet_60 (by decide) ?_
      obtain ⟨z3, hz3, h⟩ := bv_bd h
      refine er_VI [.int _] (fun _ _ q => q) lk_X7_62 dX7_sheet_61 rfl rfl rfl rfl rfl (wm_X7_error _ _ _ hz3) ?_
      obtain rfl := Option.some.inj h
      exact ev_iret rfl dX7_sheet_64 ⟨rfl, rfl, rfl⟩
set_option maxRecDepth 100000 in
set_option maxHeartbeats 4000000 in
theorem wb_X7_sheet_35  (l1 : Int32) (l2 : Int32) (l3 : Int32) (mi : bv_Mem) (z : Int32 × bv_Mem) (h : b_X7_sheet_35 l1 l2 l3 mi = some z) : bv_Ev MX7_sheet bv_X0 2 74 74 (bv_QI z) 35 [some (.ref 0), some (.int l1), some (.int l2), some (.int l3)] [] 74 (bv_mr mi) mi := by
  unfold b_X7_sheet_35 at h
  refine ev_iload_n dX7_sheet_35 rfl ?_
  refine ev_if_eq 49 dX7_sheet_36 (by decide) (fun c1 => ?_) (fun c1 => ?_)
  · replace h := bv_tt c1 h
    exact ev_weak (by exact And.intro rfl (And.intro rfl (And.intro rfl (And.intro rfl (trivial))))) (wb_X7_sheet_49  _ _ _ _ _ h)
  · replace h := bv_ff c1 h
    refine ev_iload_n dX7_sheet_39 rfl ?_
    refine ev_if_ge 49 dX7_sheet_40 (by decide) (fun c2 => ?_) (fun c2 => ?_)
    · replace h := bv_tt c2 h
      exact ev_weak (by exact And.intro rfl (And.intro rfl (And.intro rfl (And.intro rfl (trivial))))) (wb_X7_sheet_49  _ _ _ _ _ h)
    · replace h := bv_ff c2 h
      refine ev_aload_n dX7_sheet_43 rfl ?_
      refine ev_iconst (3 : Int32) dX7_sheet_44 (by decide) ?_
      obtain ⟨z1, hz1, h⟩ := bv_bd h
      refine er_VI [.int _] (fun _ _ q => q) lk_X7_62 dX7_sheet_45 rfl rfl rfl rfl rfl (wm_X7_error _ _ _ hz1) ?_
      obtain rfl := Option.some.inj h
      exact ev_iret rfl dX7_sheet_48 ⟨rfl, rfl, rfl⟩
set_option maxRecDepth 100000 in
set_option maxHeartbeats 4000000 in
theorem we_X7_sheet   (l1 : Int32) (l2 : Int32) (l3 : Int32) (mi : bv_Mem) (z : Int32 × bv_Mem) (h : f_X7_sheet  l1 l2 l3 mi = some z) : bv_Ev MX7_sheet bv_X0 2 74 74 (bv_QI z) 0 [some (.ref 0), some (.int l1), some (.int l2), some (.int l3)] [] 74 (bv_mr mi) mi := by
  unfold f_X7_sheet at h
  refine ev_iload_n dX7_sheet_0 rfl ?_
  obtain ⟨z1, hz1, h⟩ := bv_bd h
  refine er_SP [.int _] (fun _ _ q => q) lk_X7_258 dX7_sheet_1 rfl rfl rfl rfl (wm_X7_isSheet _ _ _ hz1) ?_
  refine ev_if_eq 29 dX7_sheet_4 (by decide) (fun c1 => ?_) (fun c1 => ?_)
  · replace h := bv_tt c1 h
    refine ev_aload_n dX7_sheet_29 rfl ?_
    refine ev_iconst (1 : Int32) dX7_sheet_30 (by decide) ?_
    obtain ⟨z2, hz2, h⟩ := bv_bd h
    refine er_VI [.int _] (fun _ _ q => q) lk_X7_62 dX7_sheet_31 rfl rfl rfl rfl rfl (wm_X7_error _ _ _ hz2) ?_
    obtain rfl := Option.some.inj h
    exact ev_iret rfl dX7_sheet_34 ⟨rfl, rfl, rfl⟩
  · replace h := bv_ff c1 h
    refine ev_iload_n dX7_sheet_7 rfl ?_
    refine ev_if_eq 35 dX7_sheet_8 (by decide) (fun c2 => ?_) (fun c2 => ?_)
    · replace h := bv_tt c2 h
      exact ev_weak (by exact And.intro rfl (And.intro rfl (And.intro rfl (And.intro rfl (trivial))))) (wb_X7_sheet_35  _ _ _ _ _ h)
    · replace h := bv_ff c2 h
      refine ev_iload_n dX7_sheet_11 rfl ?_
      refine ev_bipush (8 : Int32) dX7_sheet_12 (by decide) ?_
      refine ev_icmp_eq 35 dX7_sheet_14 (by decide) (fun c3 => ?_) (fun c3 => ?_)
      · replace h := bv_tt c3 h
        exact ev_weak (by exact And.intro rfl (And.intro rfl (And.intro rfl (And.intro rfl (trivial))))) (wb_X7_sheet_35  _ _ _ _ _ h)
      · replace h := bv_ff c3 h
        refine ev_iload_n dX7_sheet_17 rfl ?_
        refine ev_bipush (16 : Int32) dX7_sheet_18 (by decide) ?_
        refine ev_icmp_eq 35 dX7_sheet_20 (by decide) (fun c4 => ?_) (fun c4 => ?_)
        · replace h := bv_tt c4 h
          exact ev_weak (by exact And.intro rfl (And.intro rfl (And.intro rfl (And.intro rfl (trivial))))) (wb_X7_sheet_35  _ _ _ _ _ h)
        · replace h := bv_ff c4 h
          refine ev_iload_n dX7_sheet_23 rfl ?_
          refine ev_bipush (32 : Int32) dX7_sheet_24 (by decide) ?_
          refine ev_icmp_eq 35 dX7_sheet_26 (by decide) (fun c5 => ?_) (fun c5 => ?_)
          · replace h := bv_tt c5 h
            exact ev_weak (by exact And.intro rfl (And.intro rfl (And.intro rfl (And.intro rfl (trivial))))) (wb_X7_sheet_35  _ _ _ _ _ h)
          · replace h := bv_ff c5 h
            refine ev_aload_n dX7_sheet_29 rfl ?_
            refine ev_iconst (1 : Int32) dX7_sheet_30 (by decide) ?_
            obtain ⟨z3, hz3, h⟩ := bv_bd h
            refine er_VI [.int _] (fun _ _ q => q) lk_X7_62 dX7_sheet_31 rfl rfl rfl rfl rfl (wm_X7_error _ _ _ hz3) ?_
            obtain rfl := Option.some.inj h
            exact ev_iret rfl dX7_sheet_34 ⟨rfl, rfl, rfl⟩
theorem wm_X7_sheet   (l1 : Int32) (l2 : Int32) (l3 : Int32) (mi : bv_Mem) (z : Int32 × bv_Mem) (h : f_X7_sheet  l1 l2 l3 mi = some z) : bv_Met yX7_sheet MX7_sheet bv_X0 2 74 74 [.ref 0, .int l1, .int l2, .int l3] (bv_mr mi) mi (bv_QI z) :=
  bv_Met.of (pn_X 7 (by decide)) rfl (fun q => absurd q Bool.false_ne_true) (Nat.le_of_ble_eq_true rfl) (we_X7_sheet   l1 l2 l3 mi z h)
set_option maxRecDepth 100000 in
set_option maxHeartbeats 4000000 in
theorem we_X3_cut   (l0 : Nat) (l1 : Int32) (mi : bv_Mem) (z : Int32) (h : f_X3_cut  l0 l1 mi = some z) : bv_Ev MX3_cut bv_X0 0 74 74 (bv_QP z mi) 0 [some (.ref l0), some (.int l1)] [] 74 (bv_mr mi) mi := by
  unfold f_X3_cut at h
  refine ev_aload_n dX3_cut_0 rfl ?_
  obtain ⟨g1, h⟩ := bv_gd h
  refine ev_getI lf_X3_9 dX3_cut_1 g1 rfl ?_
  refine ev_bipush (8 : Int32) dX3_cut_4 (by decide) ?_
  refine ev_icmp_ne 17 dX3_cut_6 (by decide) (fun c1 => ?_) (fun c1 => ?_)
  · replace h := bv_ff c1 h
    refine ev_aload_n dX3_cut_17 rfl ?_
    refine ev_getI lf_X3_9 dX3_cut_18 g1 rfl ?_
    refine ev_bipush (16 : Int32) dX3_cut_21 (by decide) ?_
    refine ev_icmp_ne 33 dX3_cut_23 (by decide) (fun c2 => ?_) (fun c2 => ?_)
    · replace h := bv_ff c2 h
      refine ev_iload_n dX3_cut_33 rfl ?_
      obtain rfl := Option.some.inj h
      exact ev_iret rfl dX3_cut_34 ⟨rfl, rfl, rfl⟩
    · replace h := bv_tt c2 h
      refine ev_iload_n dX3_cut_26 rfl ?_
      refine ev_ldc (65535 : Int32) dX3_cut_27 lc_X3_22 ?_
      refine ev_iand dX3_cut_29 ?_
      refine ev_goto 34 dX3_cut_30 (by decide) ?_
      obtain rfl := Option.some.inj h
      exact ev_iret rfl dX3_cut_34 ⟨rfl, rfl, rfl⟩
  · replace h := bv_tt c1 h
    refine ev_iload_n dX3_cut_9 rfl ?_
    refine ev_sipush (255 : Int32) dX3_cut_10 (by decide) ?_
    refine ev_iand dX3_cut_13 ?_
    refine ev_goto 34 dX3_cut_14 (by decide) ?_
    obtain rfl := Option.some.inj h
    exact ev_iret rfl dX3_cut_34 ⟨rfl, rfl, rfl⟩
theorem wm_X3_cut   (l0 : Nat) (l1 : Int32) (mi : bv_Mem) (z : Int32) (h : f_X3_cut  l0 l1 mi = some z) : bv_Met yX3_cut MX3_cut bv_X0 0 74 74 [.ref l0, .int l1] (bv_mr mi) mi (bv_QP z mi) :=
  bv_Met.of (pn_X 3 (by decide)) rfl (fun q => absurd q Bool.false_ne_true) (Nat.le_of_ble_eq_true rfl) (we_X3_cut   l0 l1 mi z h)
set_option maxRecDepth 100000 in
set_option maxHeartbeats 4000000 in
theorem we_X7_put   (l1 : Int32) (l2 : Int32) (l3 : Int32) (mi : bv_Mem) (z : Int32 × bv_Mem) (h : f_X7_put  l1 l2 l3 mi = some z) : bv_Ev MX7_put bv_X0 2 74 74 (bv_QI z) 0 [some (.ref 0), some (.int l1), some (.int l2), some (.int l3), none] [] 74 (bv_mr mi) mi := by
  unfold f_X7_put at h
  refine ev_iload_n dX7_put_0 rfl ?_
  obtain ⟨z1, hz1, h⟩ := bv_bd h
  refine er_SP [.int _] (fun _ _ q => q) lk_X7_258 dX7_put_1 rfl rfl rfl rfl (wm_X7_isSheet _ _ _ hz1) ?_
  refine ev_if_ne 13 dX7_put_4 (by decide) (fun c1 => ?_) (fun c1 => ?_)
  · replace h := bv_ff c1 h
    refine ev_aload_n dX7_put_13 rfl ?_
    refine ev_getR 49 lf_X7_39 dX7_put_14 rfl rfl rfl ?_
    refine ev_iload_n dX7_put_17 rfl ?_
    obtain ⟨g1, h⟩ := bv_gd h
    obtain ⟨q1, hq1, h⟩ := bv_bd h
    refine er_aald (N := 4) q1 dX7_put_18 rfl g1 hq1 ?_
    refine ev_astore dX7_put_19 rfl rfl ?_
    refine ev_aload dX7_put_21 rfl ?_
    obtain ⟨g2, h⟩ := bv_gd h
    refine ev_getI lf_X7_264 dX7_put_23 g2 rfl ?_
    refine ev_if_ne 35 dX7_put_26 (by decide) (fun c2 => ?_) (fun c2 => ?_)
    · replace h := bv_ff c2 h
      refine ev_iload_n dX7_put_35 rfl ?_
      refine ev_iconst (0 : Int32) dX7_put_36 (by decide) ?_
      refine ev_aload dX7_put_37 rfl ?_
      refine ev_getI lf_X7_267 dX7_put_39 g2 rfl ?_
      refine ev_iconst (1 : Int32) dX7_put_42 (by decide) ?_
      refine ev_isub dX7_put_43 ?_
      obtain ⟨z2, hz2, h⟩ := bv_bd h
      refine er_SP [.int _, .int _, .int _] (fun _ _ q => q) lk_X7_58 dX7_put_44 rfl rfl rfl rfl (wm_X7_isWithin _ _ _ _ _ hz2) ?_
      refine ev_if_ne 56 dX7_put_47 (by decide) (fun c3 => ?_) (fun c3 => ?_)
      · replace h := bv_ff c3 h
        refine ev_aload dX7_put_56 rfl ?_
        obtain ⟨q2, hq2, h⟩ := bv_bd h
        refine er_getRq q2 lf_X7_270 dX7_put_58 g2 rfl rfl hq2 ?_
        refine ev_iload_n dX7_put_61 rfl ?_
        refine ev_aload dX7_put_62 rfl ?_
        refine ev_iload_n dX7_put_64 rfl ?_
        obtain ⟨z3, hz3, h⟩ := bv_bd h
        refine er_VP [.int _] (fun _ _ q => q) lk_X7_273 dX7_put_65 rfl rfl g2 rfl rfl (wm_X3_cut _ _ _ _ hz3) ?_
        obtain ⟨g3, h⟩ := bv_gd h
        obtain ⟨g4, h⟩ := bv_gd h
        refine er_iast (N := (bv_len q2)) dX7_put_68 g3 g4 ?_
        refine ev_iconst (1 : Int32) dX7_put_69 (by decide) ?_
        obtain rfl := Option.some.inj h
        exact ev_iret rfl dX7_put_70 ⟨rfl, rfl, rfl⟩
      · replace h := bv_tt c3 h
        refine ev_aload_n dX7_put_50 rfl ?_
        refine ev_iconst (1 : Int32) dX7_put_51 (by decide) ?_
        obtain ⟨z4, hz4, h⟩ := bv_bd h
        refine er_VI [.int _] (fun _ _ q => q) lk_X7_62 dX7_put_52 rfl rfl rfl rfl rfl (wm_X7_error _ _ _ hz4) ?_
        obtain rfl := Option.some.inj h
        exact ev_iret rfl dX7_put_55 ⟨rfl, rfl, rfl⟩
    · replace h := bv_tt c2 h
      refine ev_aload_n dX7_put_29 rfl ?_
      refine ev_iconst (2 : Int32) dX7_put_30 (by decide) ?_
      obtain ⟨z5, hz5, h⟩ := bv_bd h
      refine er_VI [.int _] (fun _ _ q => q) lk_X7_62 dX7_put_31 rfl rfl rfl rfl rfl (wm_X7_error _ _ _ hz5) ?_
      obtain rfl := Option.some.inj h
      exact ev_iret rfl dX7_put_34 ⟨rfl, rfl, rfl⟩
  · replace h := bv_tt c1 h
    refine ev_aload_n dX7_put_7 rfl ?_
    refine ev_iconst (1 : Int32) dX7_put_8 (by decide) ?_
    obtain ⟨z6, hz6, h⟩ := bv_bd h
    refine er_VI [.int _] (fun _ _ q => q) lk_X7_62 dX7_put_9 rfl rfl rfl rfl rfl (wm_X7_error _ _ _ hz6) ?_
    obtain rfl := Option.some.inj h
    exact ev_iret rfl dX7_put_12 ⟨rfl, rfl, rfl⟩
theorem wm_X7_put   (l1 : Int32) (l2 : Int32) (l3 : Int32) (mi : bv_Mem) (z : Int32 × bv_Mem) (h : f_X7_put  l1 l2 l3 mi = some z) : bv_Met yX7_put MX7_put bv_X0 2 74 74 [.ref 0, .int l1, .int l2, .int l3] (bv_mr mi) mi (bv_QI z) :=
  bv_Met.of (pn_X 7 (by decide)) rfl (fun q => absurd q Bool.false_ne_true) (Nat.le_of_ble_eq_true rfl) (we_X7_put   l1 l2 l3 mi z h)
set_option maxRecDepth 100000 in
set_option maxHeartbeats 4000000 in
theorem we_X3_hasRun   (l0 : Nat) (l1 : Int32) (l2 : Int32) (mi : bv_Mem) (z : Int32) (h : f_X3_hasRun  l0 l1 l2 mi = some z) : bv_Ev MX3_hasRun bv_X0 0 74 74 (bv_QP z mi) 0 [some (.ref l0), some (.int l1), some (.int l2)] [] 74 (bv_mr mi) mi := by
  unfold f_X3_hasRun at h
  refine ev_iload_n dX3_hasRun_0 rfl ?_
  refine ev_if_lt 22 dX3_hasRun_1 (by decide) (fun c1 => ?_) (fun c1 => ?_)
  · replace h := bv_tt c1 h
    refine ev_iconst (0 : Int32) dX3_hasRun_22 (by decide) ?_
    obtain rfl := Option.some.inj h
    exact ev_zret rfl (Or.inl rfl) dX3_hasRun_23 ⟨rfl, rfl, rfl⟩
  · replace h := bv_ff c1 h
    refine ev_iload_n dX3_hasRun_4 rfl ?_
    refine ev_if_lt 22 dX3_hasRun_5 (by decide) (fun c2 => ?_) (fun c2 => ?_)
    · replace h := bv_tt c2 h
      refine ev_iconst (0 : Int32) dX3_hasRun_22 (by decide) ?_
      obtain rfl := Option.some.inj h
      exact ev_zret rfl (Or.inl rfl) dX3_hasRun_23 ⟨rfl, rfl, rfl⟩
    · replace h := bv_ff c2 h
      refine ev_iload_n dX3_hasRun_8 rfl ?_
      refine ev_aload_n dX3_hasRun_9 rfl ?_
      obtain ⟨g1, h⟩ := bv_gd h
      refine ev_getI lf_X3_15 dX3_hasRun_10 g1 rfl ?_
      refine ev_iload_n dX3_hasRun_13 rfl ?_
      refine ev_isub dX3_hasRun_14 ?_
      refine ev_icmp_gt 22 dX3_hasRun_15 (by decide) (fun c3 => ?_) (fun c3 => ?_)
      · replace h := bv_tt c3 h
        refine ev_iconst (0 : Int32) dX3_hasRun_22 (by decide) ?_
        obtain rfl := Option.some.inj h
        exact ev_zret rfl (Or.inl rfl) dX3_hasRun_23 ⟨rfl, rfl, rfl⟩
      · replace h := bv_ff c3 h
        refine ev_iconst (1 : Int32) dX3_hasRun_18 (by decide) ?_
        refine ev_goto 23 dX3_hasRun_19 (by decide) ?_
        obtain rfl := Option.some.inj h
        exact ev_zret rfl (Or.inr rfl) dX3_hasRun_23 ⟨rfl, rfl, rfl⟩
theorem wm_X3_hasRun   (l0 : Nat) (l1 : Int32) (l2 : Int32) (mi : bv_Mem) (z : Int32) (h : f_X3_hasRun  l0 l1 l2 mi = some z) : bv_Met yX3_hasRun MX3_hasRun bv_X0 0 74 74 [.ref l0, .int l1, .int l2] (bv_mr mi) mi (bv_QP z mi) :=
  bv_Met.of (pn_X 3 (by decide)) rfl (fun q => absurd q Bool.false_ne_true) (Nat.le_of_ble_eq_true rfl) (we_X3_hasRun   l0 l1 l2 mi z h)
set_option maxRecDepth 100000 in
set_option maxHeartbeats 4000000 in
theorem we_X7_move   (l1 : Int32) (l2 : Int32) (l3 : Int32) (l4 : Int32) (l5 : Int32) (mi : bv_Mem) (z : Int32 × bv_Mem) (h : f_X7_move  l1 l2 l3 l4 l5 mi = some z) : bv_Ev MX7_move bv_X0 2 74 74 (bv_QI z) 0 [some (.ref 0), some (.int l1), some (.int l2), some (.int l3), some (.int l4), some (.int l5), none, none] [] 74 (bv_mr mi) mi := by
  unfold f_X7_move at h
  refine ev_iload_n dX7_move_0 rfl ?_
  obtain ⟨z1, hz1, h⟩ := bv_bd h
  refine er_SP [.int _] (fun _ _ q => q) lk_X7_258 dX7_move_1 rfl rfl rfl rfl (wm_X7_isSheet _ _ _ hz1) ?_
  refine ev_if_eq 14 dX7_move_4 (by decide) (fun c1 => ?_) (fun c1 => ?_)
  · replace h := bv_tt c1 h
    refine ev_aload_n dX7_move_14 rfl ?_
    refine ev_iconst (1 : Int32) dX7_move_15 (by decide) ?_
    obtain ⟨z2, hz2, h⟩ := bv_bd h
    refine er_VI [.int _] (fun _ _ q => q) lk_X7_62 dX7_move_16 rfl rfl rfl rfl rfl (wm_X7_error _ _ _ hz2) ?_
    obtain rfl := Option.some.inj h
    exact ev_iret rfl dX7_move_19 ⟨rfl, rfl, rfl⟩
  · replace h := bv_ff c1 h
    refine ev_iload_n dX7_move_7 rfl ?_
    obtain ⟨z3, hz3, h⟩ := bv_bd h
    refine er_SP [.int _] (fun _ _ q => q) lk_X7_258 dX7_move_8 rfl rfl rfl rfl (wm_X7_isSheet _ _ _ hz3) ?_
    refine ev_if_ne 20 dX7_move_11 (by decide) (fun c2 => ?_) (fun c2 => ?_)
    · replace h := bv_ff c2 h
      refine ev_aload_n dX7_move_20 rfl ?_
      refine ev_getR 49 lf_X7_39 dX7_move_21 rfl rfl rfl ?_
      refine ev_iload_n dX7_move_24 rfl ?_
      obtain ⟨g1, h⟩ := bv_gd h
      obtain ⟨q1, hq1, h⟩ := bv_bd h
      refine er_aald (N := 4) q1 dX7_move_25 rfl g1 hq1 ?_
      refine ev_astore dX7_move_26 rfl rfl ?_
      refine ev_aload_n dX7_move_28 rfl ?_
      refine ev_getR 49 lf_X7_39 dX7_move_29 rfl rfl rfl ?_
      refine ev_iload_n dX7_move_32 rfl ?_
      obtain ⟨g2, h⟩ := bv_gd h
      obtain ⟨q2, hq2, h⟩ := bv_bd h
      refine er_aald (N := 4) q2 dX7_move_33 rfl g2 hq2 ?_
      refine ev_astore dX7_move_34 rfl rfl ?_
      refine ev_aload dX7_move_36 rfl ?_
      obtain ⟨g3, h⟩ := bv_gd h
      refine ev_getI lf_X7_264 dX7_move_38 g3 rfl ?_
      refine ev_if_eq 52 dX7_move_41 (by decide) (fun c3 => ?_) (fun c3 => ?_)
      · replace h := bv_tt c3 h
        refine ev_aload_n dX7_move_52 rfl ?_
        refine ev_iconst (2 : Int32) dX7_move_53 (by decide) ?_
        obtain ⟨z4, hz4, h⟩ := bv_bd h
        refine er_VI [.int _] (fun _ _ q => q) lk_X7_62 dX7_move_54 rfl rfl rfl rfl rfl (wm_X7_error _ _ _ hz4) ?_
        obtain rfl := Option.some.inj h
        exact ev_iret rfl dX7_move_57 ⟨rfl, rfl, rfl⟩
      · replace h := bv_ff c3 h
        refine ev_aload dX7_move_44 rfl ?_
        obtain ⟨g4, h⟩ := bv_gd h
        refine ev_getI lf_X7_264 dX7_move_46 g4 rfl ?_
        refine ev_if_ne 58 dX7_move_49 (by decide) (fun c4 => ?_) (fun c4 => ?_)
        · replace h := bv_ff c4 h
          refine ev_aload dX7_move_58 rfl ?_
          refine ev_getI lf_X7_264 dX7_move_60 g3 rfl ?_
          refine ev_aload dX7_move_63 rfl ?_
          refine ev_getI lf_X7_264 dX7_move_65 g4 rfl ?_
          refine ev_icmp_eq 77 dX7_move_68 (by decide) (fun c5 => ?_) (fun c5 => ?_)
          · replace h := bv_tt c5 h
            refine ev_aload dX7_move_77 rfl ?_
            refine ev_iload_n dX7_move_79 rfl ?_
            refine ev_iload dX7_move_80 rfl ?_
            obtain ⟨z5, hz5, h⟩ := bv_bd h
            refine er_VP [.int _, .int _] (fun _ _ q => q) lk_X7_276 dX7_move_82 rfl rfl g3 rfl rfl (wm_X3_hasRun _ _ _ _ _ hz5) ?_
            refine ev_if_eq 100 dX7_move_85 (by decide) (fun c6 => ?_) (fun c6 => ?_)
            · replace h := bv_tt c6 h
              refine ev_aload_n dX7_move_100 rfl ?_
              refine ev_iconst (1 : Int32) dX7_move_101 (by decide) ?_
              obtain ⟨z6, hz6, h⟩ := bv_bd h
              refine er_VI [.int _] (fun _ _ q => q) lk_X7_62 dX7_move_102 rfl rfl rfl rfl rfl (wm_X7_error _ _ _ hz6) ?_
              obtain rfl := Option.some.inj h
              exact ev_iret rfl dX7_move_105 ⟨rfl, rfl, rfl⟩
            · replace h := bv_ff c6 h
              refine ev_aload dX7_move_88 rfl ?_
              refine ev_iload dX7_move_90 rfl ?_
              refine ev_iload dX7_move_92 rfl ?_
              obtain ⟨z7, hz7, h⟩ := bv_bd h
              refine er_VP [.int _, .int _] (fun _ _ q => q) lk_X7_276 dX7_move_94 rfl rfl g4 rfl rfl (wm_X3_hasRun _ _ _ _ _ hz7) ?_
              refine ev_if_ne 106 dX7_move_97 (by decide) (fun c7 => ?_) (fun c7 => ?_)
              · replace h := bv_ff c7 h
                refine ev_aload dX7_move_106 rfl ?_
                obtain ⟨q3, hq3, h⟩ := bv_bd h
                refine er_getRq q3 lf_X7_270 dX7_move_108 g3 rfl rfl hq3 ?_
                refine ev_iload_n dX7_move_111 rfl ?_
                refine ev_aload dX7_move_112 rfl ?_
                obtain ⟨q4, hq4, h⟩ := bv_bd h
                refine er_getRq q4 lf_X7_270 dX7_move_114 g4 rfl rfl hq4 ?_
                refine ev_iload dX7_move_117 rfl ?_
                refine ev_iload dX7_move_119 rfl ?_
                obtain ⟨g5, h⟩ := bv_gd h
                obtain ⟨g6, h⟩ := bv_gd h
                obtain ⟨g7, h⟩ := bv_gd h
                refine er_copy (kd := 0) (N0 := (bv_len q3)) (N1 := (bv_len q4)) dX7_move_121 lm_X7_280 (by decide) g5 g6 g7 (by decide) (Nat.le_of_ble_eq_true rfl) ?_
                refine ev_iload dX7_move_124 rfl ?_
                obtain rfl := Option.some.inj h
                exact ev_iret rfl dX7_move_126 ⟨rfl, rfl, rfl⟩
              · replace h := bv_tt c7 h
                refine ev_aload_n dX7_move_100 rfl ?_
                refine ev_iconst (1 : Int32) dX7_move_101 (by decide) ?_
                obtain ⟨z8, hz8, h⟩ := bv_bd h
                refine er_VI [.int _] (fun _ _ q => q) lk_X7_62 dX7_move_102 rfl rfl rfl rfl rfl (wm_X7_error _ _ _ hz8) ?_
                obtain rfl := Option.some.inj h
                exact ev_iret rfl dX7_move_105 ⟨rfl, rfl, rfl⟩
          · replace h := bv_ff c5 h
            refine ev_aload_n dX7_move_71 rfl ?_
            refine ev_iconst (5 : Int32) dX7_move_72 (by decide) ?_
            obtain ⟨z9, hz9, h⟩ := bv_bd h
            refine er_VI [.int _] (fun _ _ q => q) lk_X7_62 dX7_move_73 rfl rfl rfl rfl rfl (wm_X7_error _ _ _ hz9) ?_
            obtain rfl := Option.some.inj h
            exact ev_iret rfl dX7_move_76 ⟨rfl, rfl, rfl⟩
        · replace h := bv_tt c4 h
          refine ev_aload_n dX7_move_52 rfl ?_
          refine ev_iconst (2 : Int32) dX7_move_53 (by decide) ?_
          obtain ⟨z10, hz10, h⟩ := bv_bd h
          refine er_VI [.int _] (fun _ _ q => q) lk_X7_62 dX7_move_54 rfl rfl rfl rfl rfl (wm_X7_error _ _ _ hz10) ?_
          obtain rfl := Option.some.inj h
          exact ev_iret rfl dX7_move_57 ⟨rfl, rfl, rfl⟩
    · replace h := bv_tt c2 h
      refine ev_aload_n dX7_move_14 rfl ?_
      refine ev_iconst (1 : Int32) dX7_move_15 (by decide) ?_
      obtain ⟨z11, hz11, h⟩ := bv_bd h
      refine er_VI [.int _] (fun _ _ q => q) lk_X7_62 dX7_move_16 rfl rfl rfl rfl rfl (wm_X7_error _ _ _ hz11) ?_
      obtain rfl := Option.some.inj h
      exact ev_iret rfl dX7_move_19 ⟨rfl, rfl, rfl⟩
theorem wm_X7_move   (l1 : Int32) (l2 : Int32) (l3 : Int32) (l4 : Int32) (l5 : Int32) (mi : bv_Mem) (z : Int32 × bv_Mem) (h : f_X7_move  l1 l2 l3 l4 l5 mi = some z) : bv_Met yX7_move MX7_move bv_X0 2 74 74 [.ref 0, .int l1, .int l2, .int l3, .int l4, .int l5] (bv_mr mi) mi (bv_QI z) :=
  bv_Met.of (pn_X 7 (by decide)) rfl (fun q => absurd q Bool.false_ne_true) (Nat.le_of_ble_eq_true rfl) (we_X7_move   l1 l2 l3 l4 l5 mi z h)
set_option maxRecDepth 100000 in
set_option maxHeartbeats 4000000 in
theorem wb_X7_heights_35  : ∀ (fu : Nat) (l2 : Nat) (l3 : Int32) (mi : bv_Mem) (z : Int32 × bv_Mem), b_X7_heights_35 fu l2 l3 mi = some z → bv_Ev MX7_heights bv_X0 2 74 74 (bv_QI z) 35 [some (.ref 0), none, some (.ref l2), some (.int l3)] [] 74 (bv_mr mi) mi := by
  intro fu
  induction fu with
  | zero =>
    intro l2 l3 mi z h
    rw [b_X7_heights_35] at h
    cases h
  | succ fu ih =>
    intro l2 l3 mi z h
    rw [b_X7_heights_35] at h
    refine ev_iload_n dX7_heights_35 rfl ?_
    refine ev_bipush (20 : Int32) dX7_heights_36 (by decide) ?_
    refine ev_icmp_ge 88 dX7_heights_38 (by decide) (fun c1 => ?_) (fun c1 => ?_)
    · replace h := bv_tt c1 h
      refine ev_iload_n dX7_heights_88 rfl ?_
      obtain rfl := Option.some.inj h
      exact ev_iret rfl dX7_heights_89 ⟨rfl, rfl, rfl⟩
    · replace h := bv_ff c1 h
      refine ev_iload_n dX7_heights_41 rfl ?_
      refine ev_aload_n dX7_heights_42 rfl ?_
      obtain ⟨g1, h⟩ := bv_gd h
      refine ev_getI lf_X7_267 dX7_heights_43 g1 rfl ?_
      refine ev_icmp_ge 88 dX7_heights_46 (by decide) (fun c2 => ?_) (fun c2 => ?_)
      · replace h := bv_tt c2 h
        refine ev_iload_n dX7_heights_88 rfl ?_
        obtain rfl := Option.some.inj h
        exact ev_iret rfl dX7_heights_89 ⟨rfl, rfl, rfl⟩
      · replace h := bv_ff c2 h
        refine ev_aload_n dX7_heights_49 rfl ?_
        obtain ⟨q1, hq1, h⟩ := bv_bd h
        refine er_getRq q1 lf_X7_270 dX7_heights_50 g1 rfl rfl hq1 ?_
        refine ev_iload_n dX7_heights_53 rfl ?_
        obtain ⟨g2, h⟩ := bv_gd h
        obtain ⟨g3, h⟩ := bv_gd h
        refine ev_iald (N := (bv_len q1)) dX7_heights_54 g2 g3 ?_
        refine ev_iconst (0 : Int32) dX7_heights_55 (by decide) ?_
        refine ev_bipush (20 : Int32) dX7_heights_56 (by decide) ?_
        obtain ⟨z1, hz1, h⟩ := bv_bd h
        refine er_SP [.int _, .int _, .int _] (fun _ _ q => q) lk_X7_58 dX7_heights_58 rfl rfl rfl rfl (wm_X7_isWithin _ _ _ _ _ hz1) ?_
        refine ev_if_eq 88 dX7_heights_61 (by decide) (fun c3 => ?_) (fun c3 => ?_)
        · replace h := bv_tt c3 h
          refine ev_iload_n dX7_heights_88 rfl ?_
          obtain rfl := Option.some.inj h
          exact ev_iret rfl dX7_heights_89 ⟨rfl, rfl, rfl⟩
        · replace h := bv_ff c3 h
          refine ev_aload_n dX7_heights_64 rfl ?_
          refine ev_getR 1 lf_X7_10 dX7_heights_65 rfl rfl rfl ?_
          refine ev_getR 2 lf_X7_66 dX7_heights_68 rfl rfl rfl ?_
          refine ev_getR 3 lf_X7_70 dX7_heights_71 rfl rfl rfl ?_
          refine ev_iload_n dX7_heights_74 rfl ?_
          refine ev_aload_n dX7_heights_75 rfl ?_
          obtain ⟨q2, hq2, h⟩ := bv_bd h
          refine er_getRq q2 lf_X7_270 dX7_heights_76 g1 rfl rfl hq2 ?_
          refine ev_iload_n dX7_heights_79 rfl ?_
          obtain ⟨g4, h⟩ := bv_gd h
          obtain ⟨g5, h⟩ := bv_gd h
          refine ev_iald (N := (bv_len q2)) dX7_heights_80 g4 g5 ?_
          obtain ⟨g6, h⟩ := bv_gd h
          refine er_iast (N := 20) dX7_heights_81 rfl g6 ?_
          refine ev_iinc (l3 + 1) dX7_heights_82 rfl rfl rfl rfl ?_
          refine ev_goto 35 dX7_heights_85 (by decide) ?_
          exact ev_weak (by exact And.intro rfl (And.intro rfl (And.intro rfl (trivial)))) (ih _ _ _ _ h)
set_option maxRecDepth 100000 in
set_option maxHeartbeats 4000000 in
theorem we_X7_heights   (l1 : Int32) (mi : bv_Mem) (z : Int32 × bv_Mem) (h : f_X7_heights  l1 mi = some z) : bv_Ev MX7_heights bv_X0 2 74 74 (bv_QI z) 0 [some (.ref 0), some (.int l1), none, none] [] 74 (bv_mr mi) mi := by
  unfold f_X7_heights at h
  refine ev_iload_n dX7_heights_0 rfl ?_
  obtain ⟨z1, hz1, h⟩ := bv_bd h
  refine er_SP [.int _] (fun _ _ q => q) lk_X7_258 dX7_heights_1 rfl rfl rfl rfl (wm_X7_isSheet _ _ _ hz1) ?_
  refine ev_if_ne 13 dX7_heights_4 (by decide) (fun c1 => ?_) (fun c1 => ?_)
  · replace h := bv_ff c1 h
    refine ev_aload_n dX7_heights_13 rfl ?_
    refine ev_getR 49 lf_X7_39 dX7_heights_14 rfl rfl rfl ?_
    refine ev_iload_n dX7_heights_17 rfl ?_
    obtain ⟨g1, h⟩ := bv_gd h
    obtain ⟨q1, hq1, h⟩ := bv_bd h
    refine er_aald (N := 4) q1 dX7_heights_18 rfl g1 hq1 ?_
    refine ev_astore_n dX7_heights_19 rfl rfl ?_
    refine ev_aload_n dX7_heights_20 rfl ?_
    obtain ⟨g2, h⟩ := bv_gd h
    refine ev_getI lf_X7_264 dX7_heights_21 g2 rfl ?_
    refine ev_if_ne 33 dX7_heights_24 (by decide) (fun c2 => ?_) (fun c2 => ?_)
    · replace h := bv_ff c2 h
      refine ev_iconst (0 : Int32) dX7_heights_33 (by decide) ?_
      refine ev_istore_n dX7_heights_34 rfl rfl ?_
      exact ev_weak (by exact And.intro rfl (And.intro rfl (And.intro rfl (trivial)))) (wb_X7_heights_35  400 _ _ _ _ h)
    · replace h := bv_tt c2 h
      refine ev_aload_n dX7_heights_27 rfl ?_
      refine ev_iconst (2 : Int32) dX7_heights_28 (by decide) ?_
      obtain ⟨z2, hz2, h⟩ := bv_bd h
      refine er_VI [.int _] (fun _ _ q => q) lk_X7_62 dX7_heights_29 rfl rfl rfl rfl rfl (wm_X7_error _ _ _ hz2) ?_
      obtain rfl := Option.some.inj h
      exact ev_iret rfl dX7_heights_32 ⟨rfl, rfl, rfl⟩
  · replace h := bv_tt c1 h
    refine ev_aload_n dX7_heights_7 rfl ?_
    refine ev_iconst (1 : Int32) dX7_heights_8 (by decide) ?_
    obtain ⟨z3, hz3, h⟩ := bv_bd h
    refine er_VI [.int _] (fun _ _ q => q) lk_X7_62 dX7_heights_9 rfl rfl rfl rfl rfl (wm_X7_error _ _ _ hz3) ?_
    obtain rfl := Option.some.inj h
    exact ev_iret rfl dX7_heights_12 ⟨rfl, rfl, rfl⟩
theorem wm_X7_heights   (l1 : Int32) (mi : bv_Mem) (z : Int32 × bv_Mem) (h : f_X7_heights  l1 mi = some z) : bv_Met yX7_heights MX7_heights bv_X0 2 74 74 [.ref 0, .int l1] (bv_mr mi) mi (bv_QI z) :=
  bv_Met.of (pn_X 7 (by decide)) rfl (fun q => absurd q Bool.false_ne_true) (Nat.le_of_ble_eq_true rfl) (we_X7_heights   l1 mi z h)
set_option maxRecDepth 100000 in
set_option maxHeartbeats 4000000 in
theorem wb_X7_judge_76  (l2 : Nat) (l3 : Int32) (mi : bv_Mem) (z : Int32 × bv_Mem) (h : b_X7_judge_76 l2 l3 mi = some z) : bv_Ev MX7_judge bv_X0 2 74 74 (bv_QI z) 76 [none, none, some (.ref l2), some (.int l3)] [] 74 (bv_mr mi) mi := by
  unfold b_X7_judge_76 at h
  refine ev_iload_n dX7_judge_76 rfl ?_
  refine ev_bipush (20 : Int32) dX7_judge_77 (by decide) ?_
  refine ev_icmp_ne 94 dX7_judge_79 (by decide) (fun c1 => ?_) (fun c1 => ?_)
  · replace h := bv_ff c1 h
    refine ev_iload_n dX7_judge_94 rfl ?_
    obtain rfl := Option.some.inj h
    exact ev_iret rfl dX7_judge_95 ⟨rfl, rfl, rfl⟩
  · replace h := bv_tt c1 h
    refine ev_iload_n dX7_judge_82 rfl ?_
    refine ev_aload_n dX7_judge_83 rfl ?_
    obtain ⟨g1, h⟩ := bv_gd h
    refine ev_getI lf_X7_267 dX7_judge_84 g1 rfl ?_
    refine ev_icmp_ne 94 dX7_judge_87 (by decide) (fun c2 => ?_) (fun c2 => ?_)
    · replace h := bv_ff c2 h
      refine ev_iload_n dX7_judge_94 rfl ?_
      obtain rfl := Option.some.inj h
      exact ev_iret rfl dX7_judge_95 ⟨rfl, rfl, rfl⟩
    · replace h := bv_tt c2 h
      refine ev_iconst (-1 : Int32) dX7_judge_90 (by decide) ?_
      refine ev_goto 95 dX7_judge_91 (by decide) ?_
      obtain rfl := Option.some.inj h
      exact ev_iret rfl dX7_judge_95 ⟨rfl, rfl, rfl⟩
set_option maxRecDepth 100000 in
set_option maxHeartbeats 4000000 in
theorem wb_X7_judge_35  : ∀ (fu : Nat) (l2 : Nat) (l3 : Int32) (mi : bv_Mem) (z : Int32 × bv_Mem), b_X7_judge_35 fu l2 l3 mi = some z → bv_Ev MX7_judge bv_X0 2 74 74 (bv_QI z) 35 [some (.ref 0), none, some (.ref l2), some (.int l3)] [] 74 (bv_mr mi) mi := by
  intro fu
  induction fu with
  | zero =>
    intro l2 l3 mi z h
    rw [b_X7_judge_35] at h
    cases h
  | succ fu ih =>
    intro l2 l3 mi z h
    rw [b_X7_judge_35] at h
    refine ev_iload_n dX7_judge_35 rfl ?_
    refine ev_bipush (20 : Int32) dX7_judge_36 (by decide) ?_
    refine ev_icmp_ge 76 dX7_judge_38 (by decide) (fun c1 => ?_) (fun c1 => ?_)
    · replace h := bv_tt c1 h
      exact ev_weak (by exact And.intro rfl (And.intro rfl (trivial))) (wb_X7_judge_76  _ _ _ _ h)
    · replace h := bv_ff c1 h
      refine ev_iload_n dX7_judge_41 rfl ?_
      refine ev_aload_n dX7_judge_42 rfl ?_
      obtain ⟨g1, h⟩ := bv_gd h
      refine ev_getI lf_X7_267 dX7_judge_43 g1 rfl ?_
      refine ev_icmp_ge 76 dX7_judge_46 (by decide) (fun c2 => ?_) (fun c2 => ?_)
      · replace h := bv_tt c2 h
        exact ev_weak (by exact And.intro rfl (And.intro rfl (trivial))) (wb_X7_judge_76  _ _ _ _ h)
      · replace h := bv_ff c2 h
        refine ev_aload_n dX7_judge_49 rfl ?_
        obtain ⟨q1, hq1, h⟩ := bv_bd h
        refine er_getRq q1 lf_X7_270 dX7_judge_50 g1 rfl rfl hq1 ?_
        refine ev_iload_n dX7_judge_53 rfl ?_
        obtain ⟨g2, h⟩ := bv_gd h
        obtain ⟨g3, h⟩ := bv_gd h
        refine ev_iald (N := (bv_len q1)) dX7_judge_54 g2 g3 ?_
        refine ev_aload_n dX7_judge_55 rfl ?_
        refine ev_getR 1 lf_X7_10 dX7_judge_56 rfl rfl rfl ?_
        refine ev_getR 2 lf_X7_66 dX7_judge_59 rfl rfl rfl ?_
        refine ev_getR 4 lf_X7_75 dX7_judge_62 rfl rfl rfl ?_
        refine ev_iload_n dX7_judge_65 rfl ?_
        obtain ⟨g4, h⟩ := bv_gd h
        refine ev_iald (N := 20) dX7_judge_66 rfl g4 ?_
        refine ev_icmp_ne 76 dX7_judge_67 (by decide) (fun c3 => ?_) (fun c3 => ?_)
        · replace h := bv_ff c3 h
          exact ev_weak (by exact And.intro rfl (And.intro rfl (trivial))) (wb_X7_judge_76  _ _ _ _ h)
        · replace h := bv_tt c3 h
          refine ev_iinc (l3 + 1) dX7_judge_70 rfl rfl rfl rfl ?_
          refine ev_goto 35 dX7_judge_73 (by decide) ?_
          exact ev_weak (by exact And.intro rfl (And.intro rfl (And.intro rfl (trivial)))) (ih _ _ _ _ h)
set_option maxRecDepth 100000 in
set_option maxHeartbeats 4000000 in
theorem we_X7_judge   (l1 : Int32) (mi : bv_Mem) (z : Int32 × bv_Mem) (h : f_X7_judge  l1 mi = some z) : bv_Ev MX7_judge bv_X0 2 74 74 (bv_QI z) 0 [some (.ref 0), some (.int l1), none, none] [] 74 (bv_mr mi) mi := by
  unfold f_X7_judge at h
  refine ev_iload_n dX7_judge_0 rfl ?_
  obtain ⟨z1, hz1, h⟩ := bv_bd h
  refine er_SP [.int _] (fun _ _ q => q) lk_X7_258 dX7_judge_1 rfl rfl rfl rfl (wm_X7_isSheet _ _ _ hz1) ?_
  refine ev_if_ne 13 dX7_judge_4 (by decide) (fun c1 => ?_) (fun c1 => ?_)
  · replace h := bv_ff c1 h
    refine ev_aload_n dX7_judge_13 rfl ?_
    refine ev_getR 49 lf_X7_39 dX7_judge_14 rfl rfl rfl ?_
    refine ev_iload_n dX7_judge_17 rfl ?_
    obtain ⟨g1, h⟩ := bv_gd h
    obtain ⟨q1, hq1, h⟩ := bv_bd h
    refine er_aald (N := 4) q1 dX7_judge_18 rfl g1 hq1 ?_
    refine ev_astore_n dX7_judge_19 rfl rfl ?_
    refine ev_aload_n dX7_judge_20 rfl ?_
    obtain ⟨g2, h⟩ := bv_gd h
    refine ev_getI lf_X7_264 dX7_judge_21 g2 rfl ?_
    refine ev_if_ne 33 dX7_judge_24 (by decide) (fun c2 => ?_) (fun c2 => ?_)
    · replace h := bv_ff c2 h
      refine ev_iconst (0 : Int32) dX7_judge_33 (by decide) ?_
      refine ev_istore_n dX7_judge_34 rfl rfl ?_
      exact ev_weak (by exact And.intro rfl (And.intro rfl (And.intro rfl (trivial)))) (wb_X7_judge_35  400 _ _ _ _ h)
    · replace h := bv_tt c2 h
      refine ev_aload_n dX7_judge_27 rfl ?_
      refine ev_iconst (2 : Int32) dX7_judge_28 (by decide) ?_
      obtain ⟨z2, hz2, h⟩ := bv_bd h
      refine er_VI [.int _] (fun _ _ q => q) lk_X7_62 dX7_judge_29 rfl rfl rfl rfl rfl (wm_X7_error _ _ _ hz2) ?_
      obtain rfl := Option.some.inj h
      exact ev_iret rfl dX7_judge_32 ⟨rfl, rfl, rfl⟩
  · replace h := bv_tt c1 h
    refine ev_aload_n dX7_judge_7 rfl ?_
    refine ev_iconst (1 : Int32) dX7_judge_8 (by decide) ?_
    obtain ⟨z3, hz3, h⟩ := bv_bd h
    refine er_VI [.int _] (fun _ _ q => q) lk_X7_62 dX7_judge_9 rfl rfl rfl rfl rfl (wm_X7_error _ _ _ hz3) ?_
    obtain rfl := Option.some.inj h
    exact ev_iret rfl dX7_judge_12 ⟨rfl, rfl, rfl⟩
theorem wm_X7_judge   (l1 : Int32) (mi : bv_Mem) (z : Int32 × bv_Mem) (h : f_X7_judge  l1 mi = some z) : bv_Met yX7_judge MX7_judge bv_X0 2 74 74 [.ref 0, .int l1] (bv_mr mi) mi (bv_QI z) :=
  bv_Met.of (pn_X 7 (by decide)) rfl (fun q => absurd q Bool.false_ne_true) (Nat.le_of_ble_eq_true rfl) (we_X7_judge   l1 mi z h)
set_option maxRecDepth 100000 in
set_option maxHeartbeats 4000000 in
theorem we_X0_copyBottle   (l0 : Nat) (l1 : Nat) (mi : bv_Mem) (z : bv_Mem) (h : f_X0_copyBottle  l0 l1 mi = some z) : bv_Ev MX0_copyBottle bv_X0 0 74 74 (bv_QV z) 0 [some (.ref l0), some (.ref l1)] [] 74 (bv_mr mi) mi := by
  unfold f_X0_copyBottle at h
  refine ev_aload_n dX0_copyBottle_0 rfl ?_
  refine ev_aload_n dX0_copyBottle_1 rfl ?_
  obtain ⟨g1, h⟩ := bv_gd h
  refine ev_getI lf_X0_29 dX0_copyBottle_2 g1 rfl ?_
  obtain ⟨g2, h⟩ := bv_gd h
  refine er_putI lf_X0_29 dX0_copyBottle_5 g2 rfl rfl rfl ?_
  refine ev_aload_n dX0_copyBottle_8 rfl ?_
  refine ev_aload_n dX0_copyBottle_9 rfl ?_
  refine ev_getI lf_X0_32 dX0_copyBottle_10 g1 rfl ?_
  refine er_putI lf_X0_32 dX0_copyBottle_13 g2 rfl rfl rfl ?_
  refine ev_aload_n dX0_copyBottle_16 rfl ?_
  refine ev_aload_n dX0_copyBottle_17 rfl ?_
  refine ev_getI lf_X0_15 dX0_copyBottle_18 g1 rfl ?_
  refine er_putI lf_X0_15 dX0_copyBottle_21 g2 rfl rfl rfl ?_
  refine ev_aload_n dX0_copyBottle_24 rfl ?_
  refine ev_aload_n dX0_copyBottle_25 rfl ?_
  refine ev_getI lf_X0_19 dX0_copyBottle_26 g1 rfl ?_
  refine er_putI lf_X0_19 dX0_copyBottle_29 g2 rfl rfl rfl ?_
  refine ev_aload_n dX0_copyBottle_32 rfl ?_
  refine ev_aload_n dX0_copyBottle_33 rfl ?_
  refine ev_getI lf_X0_22 dX0_copyBottle_34 g1 rfl ?_
  refine er_putI lf_X0_22 dX0_copyBottle_37 g2 rfl rfl rfl ?_
  refine ev_aload_n dX0_copyBottle_40 rfl ?_
  refine ev_aload_n dX0_copyBottle_41 rfl ?_
  refine ev_getI lf_X0_25 dX0_copyBottle_42 g1 rfl ?_
  obtain ⟨g3, h⟩ := bv_gd h
  refine er_putI lf_X0_25 dX0_copyBottle_45 g2 rfl rfl g3 ?_
  obtain rfl := Option.some.inj h
  exact ev_vret rfl dX0_copyBottle_48 ⟨rfl, rfl, rfl⟩
theorem wm_X0_copyBottle   (l0 : Nat) (l1 : Nat) (mi : bv_Mem) (z : bv_Mem) (h : f_X0_copyBottle  l0 l1 mi = some z) : bv_Met yX0_copyBottle MX0_copyBottle bv_X0 0 74 74 [.ref l0, .ref l1] (bv_mr mi) mi (bv_QV z) :=
  bv_Met.of (pn_X 0 (by decide)) rfl (fun q => absurd q Bool.false_ne_true) (Nat.le_of_ble_eq_true rfl) (we_X0_copyBottle   l0 l1 mi z h)
set_option maxRecDepth 100000 in
set_option maxHeartbeats 4000000 in
theorem we_X1_copyLand_23_2    (mi : bv_Mem) (z : bv_Mem) (h : f_X1_copyLand_23_2  mi = some z) : bv_Ev MX1_copyLand bv_X0 1 74 74 (bv_QV z) 0 [some (.ref 23), some (.ref 2)] [] 74 (bv_mr mi) mi := by
  unfold f_X1_copyLand_23_2 at h
  refine ev_aload_n dX1_copyLand_0 rfl ?_
  refine ev_getR 3 lf_X1_9 dX1_copyLand_1 rfl rfl rfl ?_
  refine ev_iconst (0 : Int32) dX1_copyLand_4 (by decide) ?_
  refine ev_aload_n dX1_copyLand_5 rfl ?_
  refine ev_getR 24 lf_X1_9 dX1_copyLand_6 rfl rfl rfl ?_
  refine ev_iconst (0 : Int32) dX1_copyLand_9 (by decide) ?_
  refine ev_bipush (20 : Int32) dX1_copyLand_10 (by decide) ?_
  refine er_copy (kd := 0) (N0 := 20) (N1 := 20) dX1_copyLand_12 lm_X1_36 (by decide) rfl rfl rfl (by decide) (Nat.le_of_ble_eq_true rfl) ?_
  refine ev_aload_n dX1_copyLand_15 rfl ?_
  refine ev_getR 4 lf_X1_15 dX1_copyLand_16 rfl rfl rfl ?_
  refine ev_iconst (0 : Int32) dX1_copyLand_19 (by decide) ?_
  refine ev_aload_n dX1_copyLand_20 rfl ?_
  refine ev_getR 25 lf_X1_15 dX1_copyLand_21 rfl rfl rfl ?_
  refine ev_iconst (0 : Int32) dX1_copyLand_24 (by decide) ?_
  refine ev_bipush (20 : Int32) dX1_copyLand_25 (by decide) ?_
  refine er_copy (kd := 0) (N0 := 20) (N1 := 20) dX1_copyLand_27 lm_X1_36 (by decide) rfl rfl rfl (by decide) (Nat.le_of_ble_eq_true rfl) ?_
  obtain rfl := Option.some.inj h
  exact ev_vret rfl dX1_copyLand_30 ⟨rfl, rfl, rfl⟩
theorem wm_X1_copyLand_23_2    (mi : bv_Mem) (z : bv_Mem) (h : f_X1_copyLand_23_2  mi = some z) : bv_Met yX1_copyLand MX1_copyLand bv_X0 1 74 74 [.ref 23, .ref 2] (bv_mr mi) mi (bv_QV z) :=
  bv_Met.of (pn_X 1 (by decide)) rfl (fun q => absurd q Bool.false_ne_true) (Nat.le_of_ble_eq_true rfl) (we_X1_copyLand_23_2   mi z h)
set_option maxRecDepth 100000 in
set_option maxHeartbeats 4000000 in
theorem wb_X5_copyTown_22_1_35  : ∀ (fu : Nat) (l2 : Int32) (mi : bv_Mem) (z : bv_Mem), b_X5_copyTown_22_1_35 fu l2 mi = some z → bv_Ev MX5_copyTown bv_X0 2 74 74 (bv_QV z) 35 [some (.ref 22), some (.ref 1), some (.int l2)] [] 74 (bv_mr mi) mi := by
  intro fu
  induction fu with
  | zero =>
    intro l2 mi z h
    rw [b_X5_copyTown_22_1_35] at h
    cases h
  | succ fu ih =>
    intro l2 mi z h
    rw [b_X5_copyTown_22_1_35] at h
    refine ev_iload_n dX5_copyTown_35 rfl ?_
    refine ev_bipush (8 : Int32) dX5_copyTown_36 (by decide) ?_
    refine ev_icmp_ge 62 dX5_copyTown_38 (by decide) (fun c1 => ?_) (fun c1 => ?_)
    · replace h := bv_tt c1 h
      refine ev_aload_n dX5_copyTown_62 rfl ?_
      refine ev_aload_n dX5_copyTown_63 rfl ?_
      refine ev_getI lf_X5_32 dX5_copyTown_64 rfl rfl ?_
      refine er_putI lf_X5_32 dX5_copyTown_67 rfl rfl rfl rfl ?_
      refine ev_aload_n dX5_copyTown_70 rfl ?_
      refine ev_aload_n dX5_copyTown_71 rfl ?_
      refine ev_getI lf_X5_35 dX5_copyTown_72 rfl rfl ?_
      refine er_putI lf_X5_35 dX5_copyTown_75 rfl rfl rfl rfl ?_
      refine ev_aload_n dX5_copyTown_78 rfl ?_
      refine ev_aload_n dX5_copyTown_79 rfl ?_
      refine ev_getI lf_X5_38 dX5_copyTown_80 rfl rfl ?_
      refine er_putI lf_X5_38 dX5_copyTown_83 rfl rfl rfl rfl ?_
      refine ev_aload_n dX5_copyTown_86 rfl ?_
      refine ev_getR 28 lf_X5_44 dX5_copyTown_87 rfl rfl rfl ?_
      refine ev_aload_n dX5_copyTown_90 rfl ?_
      refine ev_getR 7 lf_X5_44 dX5_copyTown_91 rfl rfl rfl ?_
      obtain ⟨z1, hz1, h⟩ := bv_bd h
      refine er_VV [.ref _] (fun _ _ q => q) lk_X5_108 dX5_copyTown_94 rfl rfl rfl rfl rfl (wm_X4_copyTape _ _ _ _ hz1) ?_
      refine ev_aload_n dX5_copyTown_97 rfl ?_
      refine ev_getR 30 lf_X5_48 dX5_copyTown_98 rfl rfl rfl ?_
      refine ev_aload_n dX5_copyTown_101 rfl ?_
      refine ev_getR 9 lf_X5_48 dX5_copyTown_102 rfl rfl rfl ?_
      obtain ⟨z2, hz2, h⟩ := bv_bd h
      refine er_VV [.ref _] (fun _ _ q => q) lk_X5_108 dX5_copyTown_105 rfl rfl rfl rfl rfl (wm_X4_copyTape _ _ _ _ hz2) ?_
      refine ev_aload_n dX5_copyTown_108 rfl ?_
      refine ev_getR 32 lf_X5_51 dX5_copyTown_109 rfl rfl rfl ?_
      refine ev_aload_n dX5_copyTown_112 rfl ?_
      refine ev_getR 11 lf_X5_51 dX5_copyTown_113 rfl rfl rfl ?_
      obtain ⟨z3, hz3, h⟩ := bv_bd h
      refine er_VV [.ref _] (fun _ _ q => q) lk_X5_108 dX5_copyTown_116 rfl rfl rfl rfl rfl (wm_X4_copyTape _ _ _ _ hz3) ?_
      refine ev_aload_n dX5_copyTown_119 rfl ?_
      refine ev_getR 13 lf_X5_54 dX5_copyTown_120 rfl rfl rfl ?_
      refine ev_iconst (0 : Int32) dX5_copyTown_123 (by decide) ?_
      refine ev_aload_n dX5_copyTown_124 rfl ?_
      refine ev_getR 34 lf_X5_54 dX5_copyTown_125 rfl rfl rfl ?_
      refine ev_iconst (0 : Int32) dX5_copyTown_128 (by decide) ?_
      refine ev_bipush (20 : Int32) dX5_copyTown_129 (by decide) ?_
      refine er_copy (kd := 0) (N0 := 20) (N1 := 20) dX5_copyTown_131 lm_X5_98 (by decide) rfl rfl rfl (by decide) (Nat.le_of_ble_eq_true rfl) ?_
      refine ev_aload_n dX5_copyTown_134 rfl ?_
      refine ev_aload_n dX5_copyTown_135 rfl ?_
      refine ev_getI lf_X5_57 dX5_copyTown_136 rfl rfl ?_
      refine er_putI lf_X5_57 dX5_copyTown_139 rfl rfl rfl rfl ?_
      obtain rfl := Option.some.inj h
      exact ev_vret rfl dX5_copyTown_142 ⟨rfl, rfl, rfl⟩
    · replace h := bv_ff c1 h
      refine ev_aload_n dX5_copyTown_41 rfl ?_
      refine ev_getR 27 lf_X5_28 dX5_copyTown_42 rfl rfl rfl ?_
      refine ev_iload_n dX5_copyTown_45 rfl ?_
      obtain ⟨g1, h⟩ := bv_gd h
      obtain ⟨q1, hq1, h⟩ := bv_bd h
      refine er_aald (N := 8) q1 dX5_copyTown_46 rfl g1 hq1 ?_
      refine ev_aload_n dX5_copyTown_47 rfl ?_
      refine ev_getR 6 lf_X5_28 dX5_copyTown_48 rfl rfl rfl ?_
      refine ev_iload_n dX5_copyTown_51 rfl ?_
      obtain ⟨q2, hq2, h⟩ := bv_bd h
      refine er_aald (N := 8) q2 dX5_copyTown_52 rfl g1 hq2 ?_
      obtain ⟨g2, h⟩ := bv_gd h
      obtain ⟨z4, hz4, h⟩ := bv_bd h
      refine er_VV [.ref _] (fun _ _ q => q) lk_X5_104 dX5_copyTown_53 rfl rfl g2 rfl rfl (wm_X0_copyBottle _ _ _ _ hz4) ?_
      refine ev_iinc (l2 + 1) dX5_copyTown_56 rfl rfl rfl rfl ?_
      refine ev_goto 35 dX5_copyTown_59 (by decide) ?_
      exact ev_weak (by exact And.intro rfl (And.intro rfl (And.intro rfl (trivial)))) (ih _ _ _ h)
set_option maxRecDepth 100000 in
set_option maxHeartbeats 4000000 in
theorem we_X5_copyTown_22_1    (mi : bv_Mem) (z : bv_Mem) (h : f_X5_copyTown_22_1  mi = some z) : bv_Ev MX5_copyTown bv_X0 2 74 74 (bv_QV z) 0 [some (.ref 22), some (.ref 1), none] [] 74 (bv_mr mi) mi := by
  unfold f_X5_copyTown_22_1 at h
  refine ev_aload_n dX5_copyTown_0 rfl ?_
  refine ev_getR 23 lf_X5_12 dX5_copyTown_1 rfl rfl rfl ?_
  refine ev_aload_n dX5_copyTown_4 rfl ?_
  refine ev_getR 2 lf_X5_12 dX5_copyTown_5 rfl rfl rfl ?_
  obtain ⟨z1, hz1, h⟩ := bv_bd h
  refine er_VV [.ref _] (fun _ _ q => q) lk_X5_94 dX5_copyTown_8 rfl rfl rfl rfl rfl (wm_X1_copyLand_23_2  _ _ hz1) ?_
  refine ev_aload_n dX5_copyTown_11 rfl ?_
  refine ev_getR 5 lf_X5_18 dX5_copyTown_12 rfl rfl rfl ?_
  refine ev_iconst (0 : Int32) dX5_copyTown_15 (by decide) ?_
  refine ev_aload_n dX5_copyTown_16 rfl ?_
  refine ev_getR 26 lf_X5_18 dX5_copyTown_17 rfl rfl rfl ?_
  refine ev_iconst (0 : Int32) dX5_copyTown_20 (by decide) ?_
  refine ev_iconst (5 : Int32) dX5_copyTown_21 (by decide) ?_
  refine er_copy (kd := 0) (N0 := 5) (N1 := 5) dX5_copyTown_22 lm_X5_98 (by decide) rfl rfl rfl (by decide) (Nat.le_of_ble_eq_true rfl) ?_
  refine ev_aload_n dX5_copyTown_25 rfl ?_
  refine ev_aload_n dX5_copyTown_26 rfl ?_
  refine ev_getI lf_X5_22 dX5_copyTown_27 rfl rfl ?_
  refine er_putI lf_X5_22 dX5_copyTown_30 rfl rfl rfl rfl ?_
  refine ev_iconst (0 : Int32) dX5_copyTown_33 (by decide) ?_
  refine ev_istore_n dX5_copyTown_34 rfl rfl ?_
  exact ev_weak (by exact And.intro rfl (And.intro rfl (And.intro rfl (trivial)))) (wb_X5_copyTown_22_1_35  400 _ _ _ h)
theorem wm_X5_copyTown_22_1    (mi : bv_Mem) (z : bv_Mem) (h : f_X5_copyTown_22_1  mi = some z) : bv_Met yX5_copyTown MX5_copyTown bv_X0 2 74 74 [.ref 22, .ref 1] (bv_mr mi) mi (bv_QV z) :=
  bv_Met.of (pn_X 5 (by decide)) rfl (fun q => absurd q Bool.false_ne_true) (Nat.le_of_ble_eq_true rfl) (we_X5_copyTown_22_1   mi z h)
set_option maxRecDepth 100000 in
set_option maxHeartbeats 4000000 in
theorem we_X7_image    (mi : bv_Mem) (z : Int32 × bv_Mem) (h : f_X7_image  mi = some z) : bv_Ev MX7_image bv_X0 3 74 74 (bv_QI z) 0 [some (.ref 0)] [] 74 (bv_mr mi) mi := by
  unfold f_X7_image at h
  refine ev_aload_n dX7_image_0 rfl ?_
  refine ev_getR 22 lf_X7_16 dX7_image_1 rfl rfl rfl ?_
  refine ev_aload_n dX7_image_4 rfl ?_
  refine ev_getR 1 lf_X7_10 dX7_image_5 rfl rfl rfl ?_
  obtain ⟨z1, hz1, h⟩ := bv_bd h
  refine er_VV [.ref _] (fun _ _ q => q) lk_X7_286 dX7_image_8 rfl rfl rfl rfl rfl (wm_X5_copyTown_22_1  _ _ hz1) ?_
  refine ev_aload_n dX7_image_11 rfl ?_
  refine ev_dup dX7_image_12 rfl ?_
  refine ev_getI lf_X7_19 dX7_image_13 rfl rfl ?_
  refine ev_iconst (1 : Int32) dX7_image_16 (by decide) ?_
  refine ev_iadd dX7_image_17 ?_
  refine er_putI lf_X7_19 dX7_image_18 rfl rfl rfl rfl ?_
  refine ev_aload_n dX7_image_21 rfl ?_
  refine ev_getI lf_X7_19 dX7_image_22 rfl rfl ?_
  obtain rfl := Option.some.inj h
  exact ev_iret rfl dX7_image_25 ⟨rfl, rfl, rfl⟩
theorem wm_X7_image    (mi : bv_Mem) (z : Int32 × bv_Mem) (h : f_X7_image  mi = some z) : bv_Met yX7_image MX7_image bv_X0 3 74 74 [.ref 0] (bv_mr mi) mi (bv_QI z) :=
  bv_Met.of (pn_X 7 (by decide)) rfl (fun q => absurd q Bool.false_ne_true) (Nat.le_of_ble_eq_true rfl) (we_X7_image   mi z h)
set_option maxRecDepth 100000 in
set_option maxHeartbeats 4000000 in
theorem we_X1_copyLand_23    (mi : bv_Mem) (z : bv_Mem) (h : f_X1_copyLand_23  mi = some z) : bv_Ev MX1_copyLand bv_X0 1 74 74 (bv_QV z) 0 [some (.ref 2), some (.ref 23)] [] 74 (bv_mr mi) mi := by
  unfold f_X1_copyLand_23 at h
  refine ev_aload_n dX1_copyLand_0 rfl ?_
  refine ev_getR 24 lf_X1_9 dX1_copyLand_1 rfl rfl rfl ?_
  refine ev_iconst (0 : Int32) dX1_copyLand_4 (by decide) ?_
  refine ev_aload_n dX1_copyLand_5 rfl ?_
  refine ev_getR 3 lf_X1_9 dX1_copyLand_6 rfl rfl rfl ?_
  refine ev_iconst (0 : Int32) dX1_copyLand_9 (by decide) ?_
  refine ev_bipush (20 : Int32) dX1_copyLand_10 (by decide) ?_
  refine er_copy (kd := 0) (N0 := 20) (N1 := 20) dX1_copyLand_12 lm_X1_36 (by decide) rfl rfl rfl (by decide) (Nat.le_of_ble_eq_true rfl) ?_
  refine ev_aload_n dX1_copyLand_15 rfl ?_
  refine ev_getR 25 lf_X1_15 dX1_copyLand_16 rfl rfl rfl ?_
  refine ev_iconst (0 : Int32) dX1_copyLand_19 (by decide) ?_
  refine ev_aload_n dX1_copyLand_20 rfl ?_
  refine ev_getR 4 lf_X1_15 dX1_copyLand_21 rfl rfl rfl ?_
  refine ev_iconst (0 : Int32) dX1_copyLand_24 (by decide) ?_
  refine ev_bipush (20 : Int32) dX1_copyLand_25 (by decide) ?_
  refine er_copy (kd := 0) (N0 := 20) (N1 := 20) dX1_copyLand_27 lm_X1_36 (by decide) rfl rfl rfl (by decide) (Nat.le_of_ble_eq_true rfl) ?_
  obtain rfl := Option.some.inj h
  exact ev_vret rfl dX1_copyLand_30 ⟨rfl, rfl, rfl⟩
theorem wm_X1_copyLand_23    (mi : bv_Mem) (z : bv_Mem) (h : f_X1_copyLand_23  mi = some z) : bv_Met yX1_copyLand MX1_copyLand bv_X0 1 74 74 [.ref 2, .ref 23] (bv_mr mi) mi (bv_QV z) :=
  bv_Met.of (pn_X 1 (by decide)) rfl (fun q => absurd q Bool.false_ne_true) (Nat.le_of_ble_eq_true rfl) (we_X1_copyLand_23   mi z h)
set_option maxRecDepth 100000 in
set_option maxHeartbeats 4000000 in
theorem wb_X5_copyTown_22_35  : ∀ (fu : Nat) (l2 : Int32) (mi : bv_Mem) (z : bv_Mem), b_X5_copyTown_22_35 fu l2 mi = some z → bv_Ev MX5_copyTown bv_X0 2 74 74 (bv_QV z) 35 [some (.ref 1), some (.ref 22), some (.int l2)] [] 74 (bv_mr mi) mi := by
  intro fu
  induction fu with
  | zero =>
    intro l2 mi z h
    rw [b_X5_copyTown_22_35] at h
    cases h
  | succ fu ih =>
    intro l2 mi z h
    rw [b_X5_copyTown_22_35] at h
    refine ev_iload_n dX5_copyTown_35 rfl ?_
    refine ev_bipush (8 : Int32) dX5_copyTown_36 (by decide) ?_
    refine ev_icmp_ge 62 dX5_copyTown_38 (by decide) (fun c1 => ?_) (fun c1 => ?_)
    · replace h := bv_tt c1 h
      refine ev_aload_n dX5_copyTown_62 rfl ?_
      refine ev_aload_n dX5_copyTown_63 rfl ?_
      refine ev_getI lf_X5_32 dX5_copyTown_64 rfl rfl ?_
      refine er_putI lf_X5_32 dX5_copyTown_67 rfl rfl rfl rfl ?_
      refine ev_aload_n dX5_copyTown_70 rfl ?_
      refine ev_aload_n dX5_copyTown_71 rfl ?_
      refine ev_getI lf_X5_35 dX5_copyTown_72 rfl rfl ?_
      refine er_putI lf_X5_35 dX5_copyTown_75 rfl rfl rfl rfl ?_
      refine ev_aload_n dX5_copyTown_78 rfl ?_
      refine ev_aload_n dX5_copyTown_79 rfl ?_
      refine ev_getI lf_X5_38 dX5_copyTown_80 rfl rfl ?_
      refine er_putI lf_X5_38 dX5_copyTown_83 rfl rfl rfl rfl ?_
      refine ev_aload_n dX5_copyTown_86 rfl ?_
      refine ev_getR 7 lf_X5_44 dX5_copyTown_87 rfl rfl rfl ?_
      refine ev_aload_n dX5_copyTown_90 rfl ?_
      refine ev_getR 28 lf_X5_44 dX5_copyTown_91 rfl rfl rfl ?_
      obtain ⟨z1, hz1, h⟩ := bv_bd h
      refine er_VV [.ref _] (fun _ _ q => q) lk_X5_108 dX5_copyTown_94 rfl rfl rfl rfl rfl (wm_X4_copyTape _ _ _ _ hz1) ?_
      refine ev_aload_n dX5_copyTown_97 rfl ?_
      refine ev_getR 9 lf_X5_48 dX5_copyTown_98 rfl rfl rfl ?_
      refine ev_aload_n dX5_copyTown_101 rfl ?_
      refine ev_getR 30 lf_X5_48 dX5_copyTown_102 rfl rfl rfl ?_
      obtain ⟨z2, hz2, h⟩ := bv_bd h
      refine er_VV [.ref _] (fun _ _ q => q) lk_X5_108 dX5_copyTown_105 rfl rfl rfl rfl rfl (wm_X4_copyTape _ _ _ _ hz2) ?_
      refine ev_aload_n dX5_copyTown_108 rfl ?_
      refine ev_getR 11 lf_X5_51 dX5_copyTown_109 rfl rfl rfl ?_
      refine ev_aload_n dX5_copyTown_112 rfl ?_
      refine ev_getR 32 lf_X5_51 dX5_copyTown_113 rfl rfl rfl ?_
      obtain ⟨z3, hz3, h⟩ := bv_bd h
      refine er_VV [.ref _] (fun _ _ q => q) lk_X5_108 dX5_copyTown_116 rfl rfl rfl rfl rfl (wm_X4_copyTape _ _ _ _ hz3) ?_
      refine ev_aload_n dX5_copyTown_119 rfl ?_
      refine ev_getR 34 lf_X5_54 dX5_copyTown_120 rfl rfl rfl ?_
      refine ev_iconst (0 : Int32) dX5_copyTown_123 (by decide) ?_
      refine ev_aload_n dX5_copyTown_124 rfl ?_
      refine ev_getR 13 lf_X5_54 dX5_copyTown_125 rfl rfl rfl ?_
      refine ev_iconst (0 : Int32) dX5_copyTown_128 (by decide) ?_
      refine ev_bipush (20 : Int32) dX5_copyTown_129 (by decide) ?_
      refine er_copy (kd := 0) (N0 := 20) (N1 := 20) dX5_copyTown_131 lm_X5_98 (by decide) rfl rfl rfl (by decide) (Nat.le_of_ble_eq_true rfl) ?_
      refine ev_aload_n dX5_copyTown_134 rfl ?_
      refine ev_aload_n dX5_copyTown_135 rfl ?_
      refine ev_getI lf_X5_57 dX5_copyTown_136 rfl rfl ?_
      refine er_putI lf_X5_57 dX5_copyTown_139 rfl rfl rfl rfl ?_
      obtain rfl := Option.some.inj h
      exact ev_vret rfl dX5_copyTown_142 ⟨rfl, rfl, rfl⟩
    · replace h := bv_ff c1 h
      refine ev_aload_n dX5_copyTown_41 rfl ?_
      refine ev_getR 6 lf_X5_28 dX5_copyTown_42 rfl rfl rfl ?_
      refine ev_iload_n dX5_copyTown_45 rfl ?_
      obtain ⟨g1, h⟩ := bv_gd h
      obtain ⟨q1, hq1, h⟩ := bv_bd h
      refine er_aald (N := 8) q1 dX5_copyTown_46 rfl g1 hq1 ?_
      refine ev_aload_n dX5_copyTown_47 rfl ?_
      refine ev_getR 27 lf_X5_28 dX5_copyTown_48 rfl rfl rfl ?_
      refine ev_iload_n dX5_copyTown_51 rfl ?_
      obtain ⟨q2, hq2, h⟩ := bv_bd h
      refine er_aald (N := 8) q2 dX5_copyTown_52 rfl g1 hq2 ?_
      obtain ⟨g2, h⟩ := bv_gd h
      obtain ⟨z4, hz4, h⟩ := bv_bd h
      refine er_VV [.ref _] (fun _ _ q => q) lk_X5_104 dX5_copyTown_53 rfl rfl g2 rfl rfl (wm_X0_copyBottle _ _ _ _ hz4) ?_
      refine ev_iinc (l2 + 1) dX5_copyTown_56 rfl rfl rfl rfl ?_
      refine ev_goto 35 dX5_copyTown_59 (by decide) ?_
      exact ev_weak (by exact And.intro rfl (And.intro rfl (And.intro rfl (trivial)))) (ih _ _ _ h)
set_option maxRecDepth 100000 in
set_option maxHeartbeats 4000000 in
theorem we_X5_copyTown_22    (mi : bv_Mem) (z : bv_Mem) (h : f_X5_copyTown_22  mi = some z) : bv_Ev MX5_copyTown bv_X0 2 74 74 (bv_QV z) 0 [some (.ref 1), some (.ref 22), none] [] 74 (bv_mr mi) mi := by
  unfold f_X5_copyTown_22 at h
  refine ev_aload_n dX5_copyTown_0 rfl ?_
  refine ev_getR 2 lf_X5_12 dX5_copyTown_1 rfl rfl rfl ?_
  refine ev_aload_n dX5_copyTown_4 rfl ?_
  refine ev_getR 23 lf_X5_12 dX5_copyTown_5 rfl rfl rfl ?_
  obtain ⟨z1, hz1, h⟩ := bv_bd h
  refine er_VV [.ref _] (fun _ _ q => q) lk_X5_94 dX5_copyTown_8 rfl rfl rfl rfl rfl (wm_X1_copyLand_23  _ _ hz1) ?_
  refine ev_aload_n dX5_copyTown_11 rfl ?_
  refine ev_getR 26 lf_X5_18 dX5_copyTown_12 rfl rfl rfl ?_
  refine ev_iconst (0 : Int32) dX5_copyTown_15 (by decide) ?_
  refine ev_aload_n dX5_copyTown_16 rfl ?_
  refine ev_getR 5 lf_X5_18 dX5_copyTown_17 rfl rfl rfl ?_
  refine ev_iconst (0 : Int32) dX5_copyTown_20 (by decide) ?_
  refine ev_iconst (5 : Int32) dX5_copyTown_21 (by decide) ?_
  refine er_copy (kd := 0) (N0 := 5) (N1 := 5) dX5_copyTown_22 lm_X5_98 (by decide) rfl rfl rfl (by decide) (Nat.le_of_ble_eq_true rfl) ?_
  refine ev_aload_n dX5_copyTown_25 rfl ?_
  refine ev_aload_n dX5_copyTown_26 rfl ?_
  refine ev_getI lf_X5_22 dX5_copyTown_27 rfl rfl ?_
  refine er_putI lf_X5_22 dX5_copyTown_30 rfl rfl rfl rfl ?_
  refine ev_iconst (0 : Int32) dX5_copyTown_33 (by decide) ?_
  refine ev_istore_n dX5_copyTown_34 rfl rfl ?_
  exact ev_weak (by exact And.intro rfl (And.intro rfl (And.intro rfl (trivial)))) (wb_X5_copyTown_22_35  400 _ _ _ h)
theorem wm_X5_copyTown_22    (mi : bv_Mem) (z : bv_Mem) (h : f_X5_copyTown_22  mi = some z) : bv_Met yX5_copyTown MX5_copyTown bv_X0 2 74 74 [.ref 1, .ref 22] (bv_mr mi) mi (bv_QV z) :=
  bv_Met.of (pn_X 5 (by decide)) rfl (fun q => absurd q Bool.false_ne_true) (Nat.le_of_ble_eq_true rfl) (we_X5_copyTown_22   mi z h)
set_option maxRecDepth 100000 in
set_option maxHeartbeats 4000000 in
theorem we_X7_restore    (mi : bv_Mem) (z : Int32 × bv_Mem) (h : f_X7_restore  mi = some z) : bv_Ev MX7_restore bv_X0 3 74 74 (bv_QI z) 0 [some (.ref 0)] [] 74 (bv_mr mi) mi := by
  unfold f_X7_restore at h
  refine ev_aload_n dX7_restore_0 rfl ?_
  refine ev_getI lf_X7_19 dX7_restore_1 rfl rfl ?_
  refine ev_if_ne 13 dX7_restore_4 (by decide) (fun c1 => ?_) (fun c1 => ?_)
  · replace h := bv_ff c1 h
    refine ev_aload_n dX7_restore_13 rfl ?_
    refine ev_getR 1 lf_X7_10 dX7_restore_14 rfl rfl rfl ?_
    refine ev_aload_n dX7_restore_17 rfl ?_
    refine ev_getR 22 lf_X7_16 dX7_restore_18 rfl rfl rfl ?_
    obtain ⟨z1, hz1, h⟩ := bv_bd h
    refine er_VV [.ref _] (fun _ _ q => q) lk_X7_286 dX7_restore_21 rfl rfl rfl rfl rfl (wm_X5_copyTown_22  _ _ hz1) ?_
    refine ev_aload_n dX7_restore_24 rfl ?_
    refine ev_getR 1 lf_X7_10 dX7_restore_25 rfl rfl rfl ?_
    refine ev_getI lf_X7_210 dX7_restore_28 rfl rfl ?_
    obtain rfl := Option.some.inj h
    exact ev_iret rfl dX7_restore_31 ⟨rfl, rfl, rfl⟩
  · replace h := bv_tt c1 h
    refine ev_aload_n dX7_restore_7 rfl ?_
    refine ev_iconst (2 : Int32) dX7_restore_8 (by decide) ?_
    obtain ⟨z2, hz2, h⟩ := bv_bd h
    refine er_VI [.int _] (fun _ _ q => q) lk_X7_62 dX7_restore_9 rfl rfl rfl rfl rfl (wm_X7_error _ _ _ hz2) ?_
    obtain rfl := Option.some.inj h
    exact ev_iret rfl dX7_restore_12 ⟨rfl, rfl, rfl⟩
theorem wm_X7_restore    (mi : bv_Mem) (z : Int32 × bv_Mem) (h : f_X7_restore  mi = some z) : bv_Met yX7_restore MX7_restore bv_X0 3 74 74 [.ref 0] (bv_mr mi) mi (bv_QI z) :=
  bv_Met.of (pn_X 7 (by decide)) rfl (fun q => absurd q Bool.false_ne_true) (Nat.le_of_ble_eq_true rfl) (we_X7_restore   mi z h)
set_option maxRecDepth 100000 in
set_option maxHeartbeats 4000000 in
theorem we_X7_tell   (l1 : Int32) (mi : bv_Mem) (z : Int32 × bv_Mem) (h : f_X7_tell  l1 mi = some z) : bv_Ev MX7_tell bv_X0 1 74 74 (bv_QI z) 0 [some (.ref 0), some (.int l1)] [] 74 (bv_mr mi) mi := by
  unfold f_X7_tell at h
  refine ev_aload_n dX7_tell_0 rfl ?_
  refine ev_getR 1 lf_X7_10 dX7_tell_1 rfl rfl rfl ?_
  refine ev_getI lf_X7_290 dX7_tell_4 rfl rfl ?_
  refine ev_bipush (20 : Int32) dX7_tell_7 (by decide) ?_
  refine ev_icmp_lt 18 dX7_tell_9 (by decide) (fun c1 => ?_) (fun c1 => ?_)
  · replace h := bv_tt c1 h
    refine ev_aload_n dX7_tell_18 rfl ?_
    refine ev_getR 1 lf_X7_10 dX7_tell_19 rfl rfl rfl ?_
    refine ev_getR 13 lf_X7_293 dX7_tell_22 rfl rfl rfl ?_
    refine ev_aload_n dX7_tell_25 rfl ?_
    refine ev_getR 1 lf_X7_10 dX7_tell_26 rfl rfl rfl ?_
    refine ev_getI lf_X7_290 dX7_tell_29 rfl rfl ?_
    refine ev_iload_n dX7_tell_32 rfl ?_
    obtain ⟨g1, h⟩ := bv_gd h
    refine er_iast (N := 20) dX7_tell_33 rfl g1 ?_
    refine ev_aload_n dX7_tell_34 rfl ?_
    refine ev_getR 1 lf_X7_10 dX7_tell_35 rfl rfl rfl ?_
    refine ev_dup dX7_tell_38 rfl ?_
    refine ev_getI lf_X7_290 dX7_tell_39 rfl rfl ?_
    refine ev_iconst (1 : Int32) dX7_tell_42 (by decide) ?_
    refine ev_iadd dX7_tell_43 ?_
    refine er_putI lf_X7_290 dX7_tell_44 rfl rfl rfl rfl ?_
    refine ev_aload_n dX7_tell_47 rfl ?_
    refine ev_getR 1 lf_X7_10 dX7_tell_48 rfl rfl rfl ?_
    refine ev_getI lf_X7_290 dX7_tell_51 rfl rfl ?_
    obtain rfl := Option.some.inj h
    exact ev_iret rfl dX7_tell_54 ⟨rfl, rfl, rfl⟩
  · replace h := bv_ff c1 h
    refine ev_aload_n dX7_tell_12 rfl ?_
    refine ev_iconst (4 : Int32) dX7_tell_13 (by decide) ?_
    obtain ⟨z1, hz1, h⟩ := bv_bd h
    refine er_VI [.int _] (fun _ _ q => q) lk_X7_62 dX7_tell_14 rfl rfl rfl rfl rfl (wm_X7_error _ _ _ hz1) ?_
    obtain rfl := Option.some.inj h
    exact ev_iret rfl dX7_tell_17 ⟨rfl, rfl, rfl⟩
theorem wm_X7_tell   (l1 : Int32) (mi : bv_Mem) (z : Int32 × bv_Mem) (h : f_X7_tell  l1 mi = some z) : bv_Met yX7_tell MX7_tell bv_X0 1 74 74 [.ref 0, .int l1] (bv_mr mi) mi (bv_QI z) :=
  bv_Met.of (pn_X 7 (by decide)) rfl (fun q => absurd q Bool.false_ne_true) (Nat.le_of_ble_eq_true rfl) (we_X7_tell   l1 mi z h)
set_option maxRecDepth 100000 in
set_option maxHeartbeats 4000000 in
theorem wb_X7_check_18  : ∀ (fu : Nat) (l1 : Int32) (l2 : Int32) (mi : bv_Mem) (z : Int32 × bv_Mem), b_X7_check_18 fu l1 l2 mi = some z → bv_Ev MX7_check bv_X0 2 74 74 (bv_QI z) 18 [some (.ref 0), some (.int l1), some (.int l2)] [] 74 (bv_mr mi) mi := by
  intro fu
  induction fu with
  | zero =>
    intro l1 l2 mi z h
    rw [b_X7_check_18] at h
    cases h
  | succ fu ih =>
    intro l1 l2 mi z h
    rw [b_X7_check_18] at h
    refine ev_iload_n dX7_check_18 rfl ?_
    refine ev_iload_n dX7_check_19 rfl ?_
    refine ev_icmp_ge 52 dX7_check_20 (by decide) (fun c1 => ?_) (fun c1 => ?_)
    · replace h := bv_tt c1 h
      refine ev_iconst (0 : Int32) dX7_check_52 (by decide) ?_
      obtain rfl := Option.some.inj h
      exact ev_iret rfl dX7_check_53 ⟨rfl, rfl, rfl⟩
    · replace h := bv_ff c1 h
      refine ev_aload_n dX7_check_23 rfl ?_
      refine ev_getR 1 lf_X7_10 dX7_check_24 rfl rfl rfl ?_
      refine ev_getR 13 lf_X7_293 dX7_check_27 rfl rfl rfl ?_
      refine ev_iload_n dX7_check_30 rfl ?_
      obtain ⟨g1, h⟩ := bv_gd h
      refine ev_iald (N := 20) dX7_check_31 rfl g1 ?_
      refine ev_aload_n dX7_check_32 rfl ?_
      refine ev_iload_n dX7_check_33 rfl ?_
      refine ev_iconst (1 : Int32) dX7_check_34 (by decide) ?_
      refine ev_iadd dX7_check_35 ?_
      obtain ⟨z1, hz1, h⟩ := bv_bd h
      refine er_VP [.int _] (fun _ _ q => q) lk_X7_216 dX7_check_36 rfl rfl rfl rfl rfl (wm_X7_missingBehind _ _ _ hz1) ?_
      refine ev_icmp_eq 46 dX7_check_39 (by decide) (fun c2 => ?_) (fun c2 => ?_)
      · replace h := bv_tt c2 h
        refine ev_iinc (l2 + 1) dX7_check_46 rfl rfl rfl rfl ?_
        refine ev_goto 18 dX7_check_49 (by decide) ?_
        exact ev_weak (by exact And.intro rfl (And.intro rfl (And.intro rfl (trivial)))) (ih _ _ _ _ h)
      · replace h := bv_ff c2 h
        refine ev_iconst (1 : Int32) dX7_check_42 (by decide) ?_
        refine ev_iload_n dX7_check_43 rfl ?_
        refine ev_iadd dX7_check_44 ?_
        obtain rfl := Option.some.inj h
        exact ev_iret rfl dX7_check_45 ⟨rfl, rfl, rfl⟩
set_option maxRecDepth 100000 in
set_option maxHeartbeats 4000000 in
theorem we_X7_check    (mi : bv_Mem) (z : Int32 × bv_Mem) (h : f_X7_check  mi = some z) : bv_Ev MX7_check bv_X0 2 74 74 (bv_QI z) 0 [some (.ref 0), none, none] [] 74 (bv_mr mi) mi := by
  unfold f_X7_check at h
  refine ev_aload_n dX7_check_0 rfl ?_
  refine ev_getR 1 lf_X7_10 dX7_check_1 rfl rfl rfl ?_
  refine ev_getI lf_X7_290 dX7_check_4 rfl rfl ?_
  refine ev_istore_n dX7_check_7 rfl rfl ?_
  refine ev_aload_n dX7_check_8 rfl ?_
  refine ev_getR 1 lf_X7_10 dX7_check_9 rfl rfl rfl ?_
  refine ev_iconst (0 : Int32) dX7_check_12 (by decide) ?_
  refine er_putI lf_X7_290 dX7_check_13 rfl rfl rfl rfl ?_
  refine ev_iconst (0 : Int32) dX7_check_16 (by decide) ?_
  refine ev_istore_n dX7_check_17 rfl rfl ?_
  exact ev_weak (by exact And.intro rfl (And.intro rfl (And.intro rfl (trivial)))) (wb_X7_check_18  400 _ _ _ _ h)
theorem wm_X7_check    (mi : bv_Mem) (z : Int32 × bv_Mem) (h : f_X7_check  mi = some z) : bv_Met yX7_check MX7_check bv_X0 2 74 74 [.ref 0] (bv_mr mi) mi (bv_QI z) :=
  bv_Met.of (pn_X 7 (by decide)) rfl (fun q => absurd q Bool.false_ne_true) (Nat.le_of_ble_eq_true rfl) (we_X7_check   mi z h)
set_option maxRecDepth 100000 in
set_option maxHeartbeats 4000000 in
theorem wb_X5_openBottles_4 (mi : bv_Mem) : ∀ (fu : Nat) (l1 : Int32) (l2 : Int32) (z : Int32), b_X5_openBottles_4 mi fu l1 l2 = some z → bv_Ev MX5_openBottles bv_X0 1 74 74 (bv_QP z mi) 4 [some (.ref 1), some (.int l1), some (.int l2)] [] 74 (bv_mr mi) mi := by
  intro fu
  induction fu with
  | zero =>
    intro l1 l2 z h
    rw [b_X5_openBottles_4] at h
    cases h
  | succ fu ih =>
    intro l1 l2 z h
    rw [b_X5_openBottles_4] at h
    refine ev_iload_n dX5_openBottles_4 rfl ?_
    refine ev_aload_n dX5_openBottles_5 rfl ?_
    refine ev_getI lf_X5_32 dX5_openBottles_6 rfl rfl ?_
    refine ev_icmp_ge 33 dX5_openBottles_9 (by decide) (fun c1 => ?_) (fun c1 => ?_)
    · replace h := bv_tt c1 h
      refine ev_iload_n dX5_openBottles_33 rfl ?_
      obtain rfl := Option.some.inj h
      exact ev_iret rfl dX5_openBottles_34 ⟨rfl, rfl, rfl⟩
    · replace h := bv_ff c1 h
      refine ev_iload_n dX5_openBottles_12 rfl ?_
      refine ev_aload_n dX5_openBottles_13 rfl ?_
      refine ev_getR 6 lf_X5_28 dX5_openBottles_14 rfl rfl rfl ?_
      refine ev_iload_n dX5_openBottles_17 rfl ?_
      obtain ⟨g1, h⟩ := bv_gd h
      obtain ⟨q1, hq1, h⟩ := bv_bd h
      refine er_aald (N := 8) q1 dX5_openBottles_18 rfl g1 hq1 ?_
      obtain ⟨g2, h⟩ := bv_gd h
      refine ev_getI lf_X5_69 dX5_openBottles_19 g2 rfl ?_
      obtain ⟨z1, hz1, h⟩ := bv_bd h
      refine er_SNP [.int _] (fun _ _ q => q) lk_X5_73 dX5_openBottles_22 rfl rfl rfl rfl (wm_X7_oneIf _ _ _ hz1) ?_
      refine ev_iadd dX5_openBottles_25 ?_
      refine ev_istore_n dX5_openBottles_26 rfl rfl ?_
      refine ev_iinc (l2 + 1) dX5_openBottles_27 rfl rfl rfl rfl ?_
      refine ev_goto 4 dX5_openBottles_30 (by decide) ?_
      exact ev_weak (by exact And.intro rfl (And.intro rfl (And.intro rfl (trivial)))) (ih _ _ _ h)
set_option maxRecDepth 100000 in
set_option maxHeartbeats 4000000 in
theorem we_X5_openBottles    (mi : bv_Mem) (z : Int32) (h : f_X5_openBottles  mi = some z) : bv_Ev MX5_openBottles bv_X0 1 74 74 (bv_QP z mi) 0 [some (.ref 1), none, none] [] 74 (bv_mr mi) mi := by
  unfold f_X5_openBottles at h
  refine ev_iconst (0 : Int32) dX5_openBottles_0 (by decide) ?_
  refine ev_istore_n dX5_openBottles_1 rfl rfl ?_
  refine ev_iconst (0 : Int32) dX5_openBottles_2 (by decide) ?_
  refine ev_istore_n dX5_openBottles_3 rfl rfl ?_
  exact ev_weak (by exact And.intro rfl (And.intro rfl (And.intro rfl (trivial)))) (wb_X5_openBottles_4 mi 400 _ _ _ h)
theorem wm_X5_openBottles    (mi : bv_Mem) (z : Int32) (h : f_X5_openBottles  mi = some z) : bv_Met yX5_openBottles MX5_openBottles bv_X0 1 74 74 [.ref 1] (bv_mr mi) mi (bv_QP z mi) :=
  bv_Met.of (pn_X 5 (by decide)) rfl (fun q => absurd q Bool.false_ne_true) (Nat.le_of_ble_eq_true rfl) (we_X5_openBottles   mi z h)
set_option maxRecDepth 100000 in
set_option maxHeartbeats 4000000 in
theorem we_X7_count   (l1 : Int32) (mi : bv_Mem) (z : Int32 × bv_Mem) (h : f_X7_count  l1 mi = some z) : bv_Ev MX7_count bv_X0 67 74 74 (bv_QI z) 0 [some (.ref 0), some (.int l1)] [] 74 (bv_mr mi) mi := by
  unfold f_X7_count at h
  refine ev_iload_n dX7_count_0 rfl ?_
  by_cases c1 : l1 = (0 : Int32)
  · replace h := bv_tt c1 h
    refine ev_tableIn (55) 56 dX7_count_1 (by rw [c1]; decide) (by rw [c1]; decide) (by rw [c1]; decide) (by decide) ?_
    refine ev_aload_n dX7_count_56 rfl ?_
    refine ev_getR 1 lf_X7_10 dX7_count_57 rfl rfl rfl ?_
    refine ev_getI lf_X7_97 dX7_count_60 rfl rfl ?_
    obtain rfl := Option.some.inj h
    exact ev_iret rfl dX7_count_63 ⟨rfl, rfl, rfl⟩
  replace h := bv_ff c1 h
  by_cases c2 : l1 = (1 : Int32)
  · replace h := bv_tt c2 h
    refine ev_tableIn (63) 64 dX7_count_1 (by rw [c2]; decide) (by rw [c2]; decide) (by rw [c2]; decide) (by decide) ?_
    refine ev_aload_n dX7_count_64 rfl ?_
    refine ev_getR 1 lf_X7_10 dX7_count_65 rfl rfl rfl ?_
    refine ev_getI lf_X7_115 dX7_count_68 rfl rfl ?_
    obtain rfl := Option.some.inj h
    exact ev_iret rfl dX7_count_71 ⟨rfl, rfl, rfl⟩
  replace h := bv_ff c2 h
  by_cases c3 : l1 = (2 : Int32)
  · replace h := bv_tt c3 h
    refine ev_tableIn (71) 72 dX7_count_1 (by rw [c3]; decide) (by rw [c3]; decide) (by rw [c3]; decide) (by decide) ?_
    refine ev_aload_n dX7_count_72 rfl ?_
    refine ev_getR 1 lf_X7_10 dX7_count_73 rfl rfl rfl ?_
    refine ev_getI lf_X7_210 dX7_count_76 rfl rfl ?_
    obtain rfl := Option.some.inj h
    exact ev_iret rfl dX7_count_79 ⟨rfl, rfl, rfl⟩
  replace h := bv_ff c3 h
  by_cases c4 : l1 = (3 : Int32)
  · replace h := bv_tt c4 h
    refine ev_tableIn (79) 80 dX7_count_1 (by rw [c4]; decide) (by rw [c4]; decide) (by rw [c4]; decide) (by decide) ?_
    refine ev_aload_n dX7_count_80 rfl ?_
    refine ev_iconst (0 : Int32) dX7_count_81 (by decide) ?_
    obtain ⟨z1, hz1, h⟩ := bv_bd h
    refine er_VP [.int _] (fun _ _ q => q) lk_X7_216 dX7_count_82 rfl rfl rfl rfl rfl (wm_X7_missingBehind _ _ _ hz1) ?_
    obtain rfl := Option.some.inj h
    exact ev_iret rfl dX7_count_85 ⟨rfl, rfl, rfl⟩
  replace h := bv_ff c4 h
  by_cases c5 : l1 = (4 : Int32)
  · replace h := bv_tt c5 h
    refine ev_tableIn (85) 86 dX7_count_1 (by rw [c5]; decide) (by rw [c5]; decide) (by rw [c5]; decide) (by decide) ?_
    refine ev_aload_n dX7_count_86 rfl ?_
    refine ev_getR 1 lf_X7_10 dX7_count_87 rfl rfl rfl ?_
    obtain ⟨z2, hz2, h⟩ := bv_bd h
    refine er_VP [] (fun _ _ q => q) lk_X7_296 dX7_count_90 rfl rfl rfl rfl rfl (wm_X5_openBottles  _ _ hz2) ?_
    obtain rfl := Option.some.inj h
    exact ev_iret rfl dX7_count_93 ⟨rfl, rfl, rfl⟩
  replace h := bv_ff c5 h
  by_cases c6 : l1 = (5 : Int32)
  · replace h := bv_tt c6 h
    refine ev_tableIn (93) 94 dX7_count_1 (by rw [c6]; decide) (by rw [c6]; decide) (by rw [c6]; decide) (by decide) ?_
    refine ev_aload_n dX7_count_94 rfl ?_
    obtain ⟨z3, hz3, h⟩ := bv_bd h
    refine er_VV [] (fun _ _ q => q) lk_X7_236 dX7_count_95 rfl rfl rfl rfl rfl (wm_X7_workOutPrices  _ _ hz3) ?_
    refine ev_aload_n dX7_count_98 rfl ?_
    refine ev_iconst (1 : Int32) dX7_count_99 (by decide) ?_
    refine ev_aload_n dX7_count_100 rfl ?_
    refine ev_getR 1 lf_X7_10 dX7_count_101 rfl rfl rfl ?_
    refine ev_getI lf_X7_115 dX7_count_104 rfl rfl ?_
    refine ev_ishl dX7_count_107 ?_
    refine ev_iconst (1 : Int32) dX7_count_108 (by decide) ?_
    refine ev_isub dX7_count_109 ?_
    obtain ⟨z4, hz4, h⟩ := bv_bd h
    refine er_VP [.int _] (fun _ _ q => q) lk_X7_239 dX7_count_110 rfl rfl rfl rfl rfl (wm_X7_priceTogether _ _ _ hz4) ?_
    obtain rfl := Option.some.inj h
    exact ev_iret rfl dX7_count_113 ⟨rfl, rfl, rfl⟩
  replace h := bv_ff c6 h
  by_cases c7 : l1 = (6 : Int32)
  · replace h := bv_tt c7 h
    refine ev_tableIn (113) 114 dX7_count_1 (by rw [c7]; decide) (by rw [c7]; decide) (by rw [c7]; decide) (by decide) ?_
    refine ev_aload_n dX7_count_114 rfl ?_
    refine ev_getR 1 lf_X7_10 dX7_count_115 rfl rfl rfl ?_
    refine ev_getR 7 lf_X7_179 dX7_count_118 rfl rfl rfl ?_
    refine ev_getI lf_X7_183 dX7_count_121 rfl rfl ?_
    obtain rfl := Option.some.inj h
    exact ev_iret rfl dX7_count_124 ⟨rfl, rfl, rfl⟩
  replace h := bv_ff c7 h
  by_cases c8 : l1 = (7 : Int32)
  · replace h := bv_tt c8 h
    refine ev_tableIn (124) 125 dX7_count_1 (by rw [c8]; decide) (by rw [c8]; decide) (by rw [c8]; decide) (by decide) ?_
    refine ev_aload_n dX7_count_125 rfl ?_
    refine ev_getR 1 lf_X7_10 dX7_count_126 rfl rfl rfl ?_
    refine ev_getI lf_X7_290 dX7_count_129 rfl rfl ?_
    obtain rfl := Option.some.inj h
    exact ev_iret rfl dX7_count_132 ⟨rfl, rfl, rfl⟩
  replace h := bv_ff c8 h
  by_cases c9 : l1 = (8 : Int32)
  · replace h := bv_tt c9 h
    refine ev_tableIn (132) 133 dX7_count_1 (by rw [c9]; decide) (by rw [c9]; decide) (by rw [c9]; decide) (by decide) ?_
    refine ev_aload_n dX7_count_133 rfl ?_
    refine ev_getR 47 lf_X7_33 dX7_count_134 rfl rfl rfl ?_
    refine ev_getI lf_X7_252 dX7_count_137 rfl rfl ?_
    obtain rfl := Option.some.inj h
    exact ev_iret rfl dX7_count_140 ⟨rfl, rfl, rfl⟩
  replace h := bv_ff c9 h
  by_cases c10 : l1 = (9 : Int32)
  · replace h := bv_tt c10 h
    refine ev_tableIn (140) 141 dX7_count_1 (by rw [c10]; decide) (by rw [c10]; decide) (by rw [c10]; decide) (by decide) ?_
    refine ev_aload_n dX7_count_141 rfl ?_
    refine ev_getR 1 lf_X7_10 dX7_count_142 rfl rfl rfl ?_
    refine ev_getI lf_X7_245 dX7_count_145 rfl rfl ?_
    obtain rfl := Option.some.inj h
    exact ev_iret rfl dX7_count_148 ⟨rfl, rfl, rfl⟩
  replace h := bv_ff c10 h
  refine ev_tableOut 149 dX7_count_1 (bv_sw 10 (by decide) (fun j hj => by match j, hj with | 0, _ => exact c1 | 1, _ => exact c2 | 2, _ => exact c3 | 3, _ => exact c4 | 4, _ => exact c5 | 5, _ => exact c6 | 6, _ => exact c7 | 7, _ => exact c8 | 8, _ => exact c9 | 9, _ => exact c10 | j + 10, hj => exact absurd hj (by omega))) (by decide) ?_
  refine ev_aload_n dX7_count_149 rfl ?_
  refine ev_iconst (1 : Int32) dX7_count_150 (by decide) ?_
  obtain ⟨z5, hz5, h⟩ := bv_bd h
  refine er_VI [.int _] (fun _ _ q => q) lk_X7_62 dX7_count_151 rfl rfl rfl rfl rfl (wm_X7_error _ _ _ hz5) ?_
  obtain rfl := Option.some.inj h
  exact ev_iret rfl dX7_count_154 ⟨rfl, rfl, rfl⟩
theorem wm_X7_count   (l1 : Int32) (mi : bv_Mem) (z : Int32 × bv_Mem) (h : f_X7_count  l1 mi = some z) : bv_Met yX7_count MX7_count bv_X0 67 74 74 [.ref 0, .int l1] (bv_mr mi) mi (bv_QI z) :=
  bv_Met.of (pn_X 7 (by decide)) rfl (fun q => absurd q Bool.false_ne_true) (Nat.le_of_ble_eq_true rfl) (we_X7_count   l1 mi z h)
