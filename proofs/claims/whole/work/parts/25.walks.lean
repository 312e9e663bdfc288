set_option maxRecDepth 100000 in
set_option maxHeartbeats 4000000 in
theorem we_X8_notThere   (l1 : Int32) (mi : bv_Mem) (z : Int32) (h : f_X8_notThere  l1 mi = some z) : bv_Ev MX8_notThere bv_X0 2 74 74 (bv_QP z mi) 0 [some (.ref 61), some (.int l1)] [] 74 (bv_mr mi) mi := by
  unfold f_X8_notThere at h
  refine ev_iload_n dX8_notThere_0 rfl ?_
  obtain ⟨z1, hz1, h⟩ := bv_bd h
  refine er_SP [.int _] (fun _ _ q => q) lk_X8_256 dX8_notThere_1 rfl rfl rfl rfl (wm_X8_isSheet _ _ _ hz1) ?_
  refine ev_if_ne 12 dX8_notThere_4 (by decide) (fun c1 => ?_) (fun c1 => ?_)
  · replace h := bv_ff c1 h
    refine ev_aload_n dX8_notThere_12 rfl ?_
    refine ev_getR 71 lf_X8_37 dX8_notThere_13 rfl rfl rfl ?_
    refine ev_iload_n dX8_notThere_16 rfl ?_
    obtain ⟨g1, h⟩ := bv_gd h
    refine ev_iald (N := 4) dX8_notThere_17 rfl g1 ?_
    refine ev_if_ne 26 dX8_notThere_18 (by decide) (fun c2 => ?_) (fun c2 => ?_)
    · replace h := bv_ff c2 h
      refine ev_iconst (0 : Int32) dX8_notThere_26 (by decide) ?_
      obtain rfl := Option.some.inj h
      exact ev_iret rfl dX8_notThere_27 ⟨rfl, rfl, rfl⟩
    · replace h := bv_tt c2 h
      refine ev_ldc (-1000000002 : Int32) dX8_notThere_21 lc_X8_213 ?_
      refine ev_goto 27 dX8_notThere_23 (by decide) ?_
      obtain rfl := Option.some.inj h
      exact ev_iret rfl dX8_notThere_27 ⟨rfl, rfl, rfl⟩
  · replace h := bv_tt c1 h
    refine ev_ldc (-1000000001 : Int32) dX8_notThere_7 lc_X8_72 ?_
    refine ev_goto 27 dX8_notThere_9 (by decide) ?_
    obtain rfl := Option.some.inj h
    exact ev_iret rfl dX8_notThere_27 ⟨rfl, rfl, rfl⟩
theorem wm_X8_notThere   (l1 : Int32) (mi : bv_Mem) (z : Int32) (h : f_X8_notThere  l1 mi = some z) : bv_Met yX8_notThere MX8_notThere bv_X0 2 74 74 [.ref 61, .int l1] (bv_mr mi) mi (bv_QP z mi) :=
  bv_Met.of (pn_X 8 (by decide)) rfl (fun q => absurd q Bool.false_ne_true) (Nat.le_of_ble_eq_true rfl) (we_X8_notThere   l1 mi z h)
set_option maxRecDepth 100000 in
set_option maxHeartbeats 4000000 in
theorem wb_X8_put_35  (l1 : Int32) (l2 : Int32) (l3 : Int32) (s0 : Int32) (mi : bv_Mem) (z : Int32 × bv_Mem) (h : b_X8_put_35 l1 l2 l3 s0 mi = some z) : bv_Ev MX8_put bv_X0 3 74 74 (bv_QI z) 35 [some (.ref 61), some (.int l1), some (.int l2), some (.int l3), none] [.int s0] 74 (bv_mr mi) mi := by
  unfold b_X8_put_35 at h
  refine ev_istore dX8_put_35 rfl rfl ?_
  refine ev_iload dX8_put_37 rfl ?_
  refine ev_if_eq 49 dX8_put_39 (by decide) (fun c1 => ?_) (fun c1 => ?_)
  · replace h := bv_tt c1 h
    refine ev_aload_n dX8_put_49 rfl ?_
    refine ev_getR 73 lf_X8_43 dX8_put_50 rfl rfl rfl ?_
    refine ev_bipush (40 : Int32) dX8_put_53 (by decide) ?_
    refine ev_iload_n dX8_put_55 rfl ?_
    refine ev_imul dX8_put_56 ?_
    refine ev_iload_n dX8_put_57 rfl ?_
    refine ev_iadd dX8_put_58 ?_
    refine ev_aload_n dX8_put_59 rfl ?_
    refine ev_getR 71 lf_X8_37 dX8_put_60 rfl rfl rfl ?_
    refine ev_iload_n dX8_put_63 rfl ?_
    obtain ⟨g1, h⟩ := bv_gd h
    refine ev_iald (N := 4) dX8_put_64 rfl g1 ?_
    refine ev_bipush (8 : Int32) dX8_put_65 (by decide) ?_
    refine ev_icmp_ne 75 dX8_put_67 (by decide) (fun c2 => ?_) (fun c2 => ?_)
    · replace h := bv_ff c2 h
      refine ev_aload_n dX8_put_75 rfl ?_
      refine ev_getR 71 lf_X8_37 dX8_put_76 rfl rfl rfl ?_
      refine ev_iload_n dX8_put_79 rfl ?_
      refine ev_iald (N := 4) dX8_put_80 rfl g1 ?_
      refine ev_bipush (16 : Int32) dX8_put_81 (by decide) ?_
      refine ev_icmp_ne 91 dX8_put_83 (by decide) (fun c3 => ?_) (fun c3 => ?_)
      · replace h := bv_ff c3 h
        refine ev_iload_n dX8_put_91 rfl ?_
        obtain ⟨g2, h⟩ := bv_gd h
        refine er_iast (N := 160) dX8_put_92 rfl g2 ?_
        refine ev_iconst (1 : Int32) dX8_put_93 (by decide) ?_
        obtain rfl := Option.some.inj h
        exact ev_iret rfl dX8_put_94 ⟨rfl, rfl, rfl⟩
      · replace h := bv_tt c3 h
        refine ev_iload_n dX8_put_86 rfl ?_
        refine ev_i2s dX8_put_87 ?_
        refine ev_goto 92 dX8_put_88 (by decide) ?_
        obtain ⟨g3, h⟩ := bv_gd h
        refine er_iast (N := 160) dX8_put_92 rfl g3 ?_
        refine ev_iconst (1 : Int32) dX8_put_93 (by decide) ?_
        obtain rfl := Option.some.inj h
        exact ev_iret rfl dX8_put_94 ⟨rfl, rfl, rfl⟩
    · replace h := bv_tt c2 h
      refine ev_iload_n dX8_put_70 rfl ?_
      refine ev_i2b dX8_put_71 ?_
      refine ev_goto 92 dX8_put_72 (by decide) ?_
      obtain ⟨g4, h⟩ := bv_gd h
      refine er_iast (N := 160) dX8_put_92 rfl g4 ?_
      refine ev_iconst (1 : Int32) dX8_put_93 (by decide) ?_
      obtain rfl := Option.some.inj h
      exact ev_iret rfl dX8_put_94 ⟨rfl, rfl, rfl⟩
  · replace h := bv_ff c1 h
    refine ev_aload_n dX8_put_42 rfl ?_
    refine ev_iload dX8_put_43 rfl ?_
    obtain ⟨z1, hz1, h⟩ := bv_bd h
    refine er_VI [.int _] (fun _ _ q => q) lk_X8_73 dX8_put_45 rfl rfl rfl rfl rfl (wm_X8_error _ _ _ hz1) ?_
    obtain rfl := Option.some.inj h
    exact ev_iret rfl dX8_put_48 ⟨rfl, rfl, rfl⟩
set_option maxRecDepth 100000 in
set_option maxHeartbeats 4000000 in
theorem wb_X8_put_33  (l1 : Int32) (l2 : Int32) (l3 : Int32) (l4 : Int32) (mi : bv_Mem) (z : Int32 × bv_Mem) (h : b_X8_put_33 l1 l2 l3 l4 mi = some z) : bv_Ev MX8_put bv_X0 3 74 74 (bv_QI z) 33 [some (.ref 61), some (.int l1), some (.int l2), some (.int l3), some (.int l4)] [] 74 (bv_mr mi) mi := by
  unfold b_X8_put_33 at h
  refine ev_iload dX8_put_33 rfl ?_
  exact ev_weak (by exact And.intro rfl (And.intro rfl (And.intro rfl (And.intro rfl (trivial))))) (wb_X8_put_35  _ _ _ _ _ _ h)
set_option maxRecDepth 100000 in
set_option maxHeartbeats 4000000 in
theorem we_X8_put   (l1 : Int32) (l2 : Int32) (l3 : Int32) (mi : bv_Mem) (z : Int32 × bv_Mem) (h : f_X8_put  l1 l2 l3 mi = some z) : bv_Ev MX8_put bv_X0 3 74 74 (bv_QI z) 0 [some (.ref 61), some (.int l1), some (.int l2), some (.int l3), none] [] 74 (bv_mr mi) mi := by
  unfold f_X8_put at h
  refine ev_aload_n dX8_put_0 rfl ?_
  refine ev_iload_n dX8_put_1 rfl ?_
  obtain ⟨z1, hz1, h⟩ := bv_bd h
  refine er_VP [.int _] (fun _ _ q => q) lk_X8_259 dX8_put_2 rfl rfl rfl rfl rfl (wm_X8_notThere _ _ _ hz1) ?_
  refine ev_istore dX8_put_5 rfl rfl ?_
  refine ev_iload dX8_put_7 rfl ?_
  refine ev_if_ne 33 dX8_put_9 (by decide) (fun c1 => ?_) (fun c1 => ?_)
  · replace h := bv_ff c1 h
    exact ev_weak (by exact And.intro rfl (And.intro rfl (And.intro rfl (And.intro rfl (And.intro rfl (trivial)))))) (wb_X8_put_33  _ _ _ _ _ _ h)
  · replace h := bv_tt c1 h
    refine ev_iload_n dX8_put_12 rfl ?_
    refine ev_iconst (0 : Int32) dX8_put_13 (by decide) ?_
    refine ev_aload_n dX8_put_14 rfl ?_
    refine ev_getR 72 lf_X8_40 dX8_put_15 rfl rfl rfl ?_
    refine ev_iload_n dX8_put_18 rfl ?_
    obtain ⟨g1, h⟩ := bv_gd h
    refine ev_iald (N := 4) dX8_put_19 rfl g1 ?_
    refine ev_iconst (1 : Int32) dX8_put_20 (by decide) ?_
    refine ev_isub dX8_put_21 ?_
    obtain ⟨z2, hz2, h⟩ := bv_bd h
    refine er_SP [.int _, .int _, .int _] (fun _ _ q => q) lk_X8_47 dX8_put_22 rfl rfl rfl rfl (wm_X8_in _ _ _ _ _ hz2) ?_
    refine ev_if_ne 33 dX8_put_25 (by decide) (fun c2 => ?_) (fun c2 => ?_)
    · replace h := bv_ff c2 h
      exact ev_weak (by exact And.intro rfl (And.intro rfl (And.intro rfl (And.intro rfl (And.intro rfl (trivial)))))) (wb_X8_put_33  _ _ _ _ _ _ h)
    · replace h := bv_tt c2 h
      refine ev_ldc (-1000000001 : Int32) dX8_put_28 lc_X8_72 ?_
      refine ev_goto 35 dX8_put_30 (by decide) ?_
      exact ev_weak (by exact And.intro rfl (And.intro rfl (And.intro rfl (And.intro rfl (trivial))))) (wb_X8_put_35  _ _ _ _ _ _ h)
theorem wm_X8_put   (l1 : Int32) (l2 : Int32) (l3 : Int32) (mi : bv_Mem) (z : Int32 × bv_Mem) (h : f_X8_put  l1 l2 l3 mi = some z) : bv_Met yX8_put MX8_put bv_X0 3 74 74 [.ref 61, .int l1, .int l2, .int l3] (bv_mr mi) mi (bv_QI z) :=
  bv_Met.of (pn_X 8 (by decide)) rfl (fun q => absurd q Bool.false_ne_true) (Nat.le_of_ble_eq_true rfl) (we_X8_put   l1 l2 l3 mi z h)
set_option maxRecDepth 100000 in
set_option maxHeartbeats 4000000 in
theorem wb_X8_notMoved_102 (mi : bv_Mem) (s0 : Int32) (z : Int32) (h : b_X8_notMoved_102 mi s0 = some z) : bv_Ev MX8_notMoved bv_X0 2 74 74 (bv_QP z mi) 102 [none, none, none, none, none, none, none] [.int s0] 74 (bv_mr mi) mi := by
  unfold b_X8_notMoved_102 at h
  refine ev_istore dX8_notMoved_102 rfl rfl ?_
  refine ev_iload dX8_notMoved_104 rfl ?_
  refine ev_if_eq 113 dX8_notMoved_106 (by decide) (fun c1 => ?_) (fun c1 => ?_)
  · replace h := bv_tt c1 h
    refine ev_ldc (-1000000001 : Int32) dX8_notMoved_113 lc_X8_72 ?_
    obtain rfl := Option.some.inj h
    exact ev_iret rfl dX8_notMoved_115 ⟨rfl, rfl, rfl⟩
  · replace h := bv_ff c1 h
    refine ev_iconst (0 : Int32) dX8_notMoved_109 (by decide) ?_
    refine ev_goto 115 dX8_notMoved_110 (by decide) ?_
    obtain rfl := Option.some.inj h
    exact ev_iret rfl dX8_notMoved_115 ⟨rfl, rfl, rfl⟩
set_option maxRecDepth 100000 in
set_option maxHeartbeats 4000000 in
theorem wb_X8_notMoved_101 (mi : bv_Mem) (z : Int32) (h : b_X8_notMoved_101 mi  = some z) : bv_Ev MX8_notMoved bv_X0 2 74 74 (bv_QP z mi) 101 [none, none, none, none, none, none, none] [] 74 (bv_mr mi) mi := by
  unfold b_X8_notMoved_101 at h
  refine ev_iconst (0 : Int32) dX8_notMoved_101 (by decide) ?_
  exact ev_weak (by exact trivial) (wb_X8_notMoved_102 mi _ _ h)
set_option maxRecDepth 100000 in
set_option maxHeartbeats 4000000 in
theorem we_X8_notMoved   (l1 : Int32) (l2 : Int32) (l3 : Int32) (l4 : Int32) (l5 : Int32) (mi : bv_Mem) (z : Int32) (h : f_X8_notMoved  l1 l2 l3 l4 l5 mi = some z) : bv_Ev MX8_notMoved bv_X0 2 74 74 (bv_QP z mi) 0 [some (.ref 61), some (.int l1), some (.int l2), some (.int l3), some (.int l4), some (.int l5), none] [] 74 (bv_mr mi) mi := by
  unfold f_X8_notMoved at h
  refine ev_iload_n dX8_notMoved_0 rfl ?_
  obtain ⟨z1, hz1, h⟩ := bv_bd h
  refine er_SP [.int _] (fun _ _ q => q) lk_X8_256 dX8_notMoved_1 rfl rfl rfl rfl (wm_X8_isSheet _ _ _ hz1) ?_
  refine ev_if_eq 14 dX8_notMoved_4 (by decide) (fun c1 => ?_) (fun c1 => ?_)
  · replace h := bv_tt c1 h
    refine ev_ldc (-1000000001 : Int32) dX8_notMoved_14 lc_X8_72 ?_
    obtain rfl := Option.some.inj h
    exact ev_iret rfl dX8_notMoved_16 ⟨rfl, rfl, rfl⟩
  · replace h := bv_ff c1 h
    refine ev_iload_n dX8_notMoved_7 rfl ?_
    obtain ⟨z2, hz2, h⟩ := bv_bd h
    refine er_SP [.int _] (fun _ _ q => q) lk_X8_256 dX8_notMoved_8 rfl rfl rfl rfl (wm_X8_isSheet _ _ _ hz2) ?_
    refine ev_if_ne 17 dX8_notMoved_11 (by decide) (fun c2 => ?_) (fun c2 => ?_)
    · replace h := bv_ff c2 h
      refine ev_aload_n dX8_notMoved_17 rfl ?_
      refine ev_getR 71 lf_X8_37 dX8_notMoved_18 rfl rfl rfl ?_
      refine ev_iload_n dX8_notMoved_21 rfl ?_
      obtain ⟨g1, h⟩ := bv_gd h
      refine ev_iald (N := 4) dX8_notMoved_22 rfl g1 ?_
      refine ev_if_eq 35 dX8_notMoved_23 (by decide) (fun c3 => ?_) (fun c3 => ?_)
      · replace h := bv_tt c3 h
        refine ev_ldc (-1000000002 : Int32) dX8_notMoved_35 lc_X8_213 ?_
        obtain rfl := Option.some.inj h
        exact ev_iret rfl dX8_notMoved_37 ⟨rfl, rfl, rfl⟩
      · replace h := bv_ff c3 h
        refine ev_aload_n dX8_notMoved_26 rfl ?_
        refine ev_getR 71 lf_X8_37 dX8_notMoved_27 rfl rfl rfl ?_
        refine ev_iload_n dX8_notMoved_30 rfl ?_
        obtain ⟨g2, h⟩ := bv_gd h
        refine ev_iald (N := 4) dX8_notMoved_31 rfl g2 ?_
        refine ev_if_ne 38 dX8_notMoved_32 (by decide) (fun c4 => ?_) (fun c4 => ?_)
        · replace h := bv_ff c4 h
          refine ev_aload_n dX8_notMoved_38 rfl ?_
          refine ev_getR 71 lf_X8_37 dX8_notMoved_39 rfl rfl rfl ?_
          refine ev_iload_n dX8_notMoved_42 rfl ?_
          refine ev_iald (N := 4) dX8_notMoved_43 rfl g1 ?_
          refine ev_aload_n dX8_notMoved_44 rfl ?_
          refine ev_getR 71 lf_X8_37 dX8_notMoved_45 rfl rfl rfl ?_
          refine ev_iload_n dX8_notMoved_48 rfl ?_
          refine ev_iald (N := 4) dX8_notMoved_49 rfl g2 ?_
          refine ev_icmp_eq 56 dX8_notMoved_50 (by decide) (fun c5 => ?_) (fun c5 => ?_)
          · replace h := bv_tt c5 h
            refine ev_iload dX8_notMoved_56 rfl ?_
            refine ev_if_lt 101 dX8_notMoved_58 (by decide) (fun c6 => ?_) (fun c6 => ?_)
            · replace h := bv_tt c6 h
              exact ev_weak (by exact trivial) (wb_X8_notMoved_101 mi  _ h)
            · replace h := bv_ff c6 h
              refine ev_iload_n dX8_notMoved_61 rfl ?_
              refine ev_if_lt 101 dX8_notMoved_62 (by decide) (fun c7 => ?_) (fun c7 => ?_)
              · replace h := bv_tt c7 h
                exact ev_weak (by exact trivial) (wb_X8_notMoved_101 mi  _ h)
              · replace h := bv_ff c7 h
                refine ev_iload dX8_notMoved_65 rfl ?_
                refine ev_if_lt 101 dX8_notMoved_67 (by decide) (fun c8 => ?_) (fun c8 => ?_)
                · replace h := bv_tt c8 h
                  exact ev_weak (by exact trivial) (wb_X8_notMoved_101 mi  _ h)
                · replace h := bv_ff c8 h
                  refine ev_iload dX8_notMoved_70 rfl ?_
                  refine ev_aload_n dX8_notMoved_72 rfl ?_
                  refine ev_getR 72 lf_X8_40 dX8_notMoved_73 rfl rfl rfl ?_
                  refine ev_iload_n dX8_notMoved_76 rfl ?_
                  refine ev_iald (N := 4) dX8_notMoved_77 rfl g1 ?_
                  refine ev_iload_n dX8_notMoved_78 rfl ?_
                  refine ev_isub dX8_notMoved_79 ?_
                  refine ev_icmp_gt 101 dX8_notMoved_80 (by decide) (fun c9 => ?_) (fun c9 => ?_)
                  · replace h := bv_tt c9 h
                    exact ev_weak (by exact trivial) (wb_X8_notMoved_101 mi  _ h)
                  · replace h := bv_ff c9 h
                    refine ev_iload dX8_notMoved_83 rfl ?_
                    refine ev_aload_n dX8_notMoved_85 rfl ?_
                    refine ev_getR 72 lf_X8_40 dX8_notMoved_86 rfl rfl rfl ?_
                    refine ev_iload_n dX8_notMoved_89 rfl ?_
                    refine ev_iald (N := 4) dX8_notMoved_90 rfl g2 ?_
                    refine ev_iload dX8_notMoved_91 rfl ?_
                    refine ev_isub dX8_notMoved_93 ?_
                    refine ev_icmp_gt 101 dX8_notMoved_94 (by decide) (fun c10 => ?_) (fun c10 => ?_)
                    · replace h := bv_tt c10 h
                      exact ev_weak (by exact trivial) (wb_X8_notMoved_101 mi  _ h)
                    · replace h := bv_ff c10 h
                      refine ev_iconst (1 : Int32) dX8_notMoved_97 (by decide) ?_
                      refine ev_goto 102 dX8_notMoved_98 (by decide) ?_
                      exact ev_weak (by exact trivial) (wb_X8_notMoved_102 mi _ _ h)
          · replace h := bv_ff c5 h
            refine ev_ldc (-1000000005 : Int32) dX8_notMoved_53 lc_X8_125 ?_
            obtain rfl := Option.some.inj h
            exact ev_iret rfl dX8_notMoved_55 ⟨rfl, rfl, rfl⟩
        · replace h := bv_tt c4 h
          refine ev_ldc (-1000000002 : Int32) dX8_notMoved_35 lc_X8_213 ?_
          obtain rfl := Option.some.inj h
          exact ev_iret rfl dX8_notMoved_37 ⟨rfl, rfl, rfl⟩
    · replace h := bv_tt c2 h
      refine ev_ldc (-1000000001 : Int32) dX8_notMoved_14 lc_X8_72 ?_
      obtain rfl := Option.some.inj h
      exact ev_iret rfl dX8_notMoved_16 ⟨rfl, rfl, rfl⟩
theorem wm_X8_notMoved   (l1 : Int32) (l2 : Int32) (l3 : Int32) (l4 : Int32) (l5 : Int32) (mi : bv_Mem) (z : Int32) (h : f_X8_notMoved  l1 l2 l3 l4 l5 mi = some z) : bv_Met yX8_notMoved MX8_notMoved bv_X0 2 74 74 [.ref 61, .int l1, .int l2, .int l3, .int l4, .int l5] (bv_mr mi) mi (bv_QP z mi) :=
  bv_Met.of (pn_X 8 (by decide)) rfl (fun q => absurd q Bool.false_ne_true) (Nat.le_of_ble_eq_true rfl) (we_X8_notMoved   l1 l2 l3 l4 l5 mi z h)
set_option maxRecDepth 100000 in
set_option maxHeartbeats 4000000 in
theorem wb_X8_move_53 (k_28 : Int32 → Int32 → Int32 → Int32 → Int32 → Int32 → bv_Mem → Option (Int32 × bv_Mem)) (hk_28 : ∀ (l1 : Int32) (l2 : Int32) (l3 : Int32) (l4 : Int32) (l5 : Int32) (l7 : Int32) (mi : bv_Mem) (z : Int32 × bv_Mem), k_28 l1 l2 l3 l4 l5 l7 mi = some z → bv_Ev MX8_move bv_X0 3 74 74 (bv_QI z) 28 [some (.ref 61), some (.int l1), some (.int l2), some (.int l3), some (.int l4), some (.int l5), none, some (.int l7), none] [] 74 (bv_mr mi) mi) (l1 : Int32) (l2 : Int32) (l3 : Int32) (l4 : Int32) (l5 : Int32) (l7 : Int32) (s0 : Int32) (mi : bv_Mem) (z : Int32 × bv_Mem) (h : b_X8_move_53 k_28 l1 l2 l3 l4 l5 l7 s0 mi = some z) : bv_Ev MX8_move bv_X0 3 74 74 (bv_QI z) 53 [some (.ref 61), some (.int l1), some (.int l2), some (.int l3), some (.int l4), some (.int l5), none, some (.int l7), none] [.int s0] 74 (bv_mr mi) mi := by
  unfold b_X8_move_53 at h
  refine ev_istore dX8_move_53 rfl rfl ?_
  refine ev_aload_n dX8_move_55 rfl ?_
  refine ev_getR 73 lf_X8_43 dX8_move_56 rfl rfl rfl ?_
  refine ev_bipush (40 : Int32) dX8_move_59 (by decide) ?_
  refine ev_iload_n dX8_move_61 rfl ?_
  refine ev_imul dX8_move_62 ?_
  refine ev_iload dX8_move_63 rfl ?_
  refine ev_iadd dX8_move_65 ?_
  refine ev_iload dX8_move_66 rfl ?_
  refine ev_iadd dX8_move_68 ?_
  refine ev_aload_n dX8_move_69 rfl ?_
  refine ev_getR 73 lf_X8_43 dX8_move_70 rfl rfl rfl ?_
  refine ev_bipush (40 : Int32) dX8_move_73 (by decide) ?_
  refine ev_iload_n dX8_move_75 rfl ?_
  refine ev_imul dX8_move_76 ?_
  refine ev_iload_n dX8_move_77 rfl ?_
  refine ev_iadd dX8_move_78 ?_
  refine ev_iload dX8_move_79 rfl ?_
  refine ev_iadd dX8_move_81 ?_
  obtain ⟨g1, h⟩ := bv_gd h
  refine ev_iald (N := 160) dX8_move_82 rfl g1 ?_
  obtain ⟨g2, h⟩ := bv_gd h
  refine er_iast (N := 160) dX8_move_83 rfl g2 ?_
  refine ev_iinc (l7 + 1) dX8_move_84 rfl rfl rfl rfl ?_
  refine ev_goto 28 dX8_move_87 (by decide) ?_
  exact ev_weak (by exact And.intro rfl (And.intro rfl (And.intro rfl (And.intro rfl (And.intro rfl (And.intro rfl (And.intro rfl (trivial)))))))) (hk_28 _ _ _ _ _ _ _ _ h)
set_option maxRecDepth 100000 in
set_option maxHeartbeats 4000000 in
theorem wb_X8_move_28  : ∀ (fu : Nat) (l1 : Int32) (l2 : Int32) (l3 : Int32) (l4 : Int32) (l5 : Int32) (l7 : Int32) (mi : bv_Mem) (z : Int32 × bv_Mem), b_X8_move_28 fu l1 l2 l3 l4 l5 l7 mi = some z → bv_Ev MX8_move bv_X0 3 74 74 (bv_QI z) 28 [some (.ref 61), some (.int l1), some (.int l2), some (.int l3), some (.int l4), some (.int l5), none, some (.int l7), none] [] 74 (bv_mr mi) mi := by
  intro fu
  induction fu with
  | zero =>
    intro l1 l2 l3 l4 l5 l7 mi z h
    rw [b_X8_move_28] at h
    cases h
  | succ fu ih =>
    intro l1 l2 l3 l4 l5 l7 mi z h
    rw [b_X8_move_28] at h
    refine ev_iload dX8_move_28 rfl ?_
    refine ev_iload dX8_move_30 rfl ?_
    refine ev_icmp_ge 90 dX8_move_32 (by decide) (fun c1 => ?_) (fun c1 => ?_)
    · replace h := bv_tt c1 h
      refine ev_iload dX8_move_90 rfl ?_
      obtain rfl := Option.some.inj h
      exact ev_iret rfl dX8_move_92 ⟨rfl, rfl, rfl⟩
    · replace h := bv_ff c1 h
      refine ev_iload_n dX8_move_35 rfl ?_
      refine ev_iload dX8_move_36 rfl ?_
      refine ev_icmp_ge 51 dX8_move_38 (by decide) (fun c2 => ?_) (fun c2 => ?_)
      · replace h := bv_tt c2 h
        refine ev_iload dX8_move_51 rfl ?_
        exact ev_weak (by exact And.intro rfl (And.intro rfl (And.intro rfl (And.intro rfl (And.intro rfl (And.intro rfl (And.intro rfl (trivial)))))))) (wb_X8_move_53 (b_X8_move_28 fu) ih _ _ _ _ _ _ _ _ _ h)
      · replace h := bv_ff c2 h
        refine ev_iload dX8_move_41 rfl ?_
        refine ev_iconst (1 : Int32) dX8_move_43 (by decide) ?_
        refine ev_isub dX8_move_44 ?_
        refine ev_iload dX8_move_45 rfl ?_
        refine ev_isub dX8_move_47 ?_
        refine ev_goto 53 dX8_move_48 (by decide) ?_
        exact ev_weak (by exact And.intro rfl (And.intro rfl (And.intro rfl (And.intro rfl (And.intro rfl (And.intro rfl (And.intro rfl (trivial)))))))) (wb_X8_move_53 (b_X8_move_28 fu) ih _ _ _ _ _ _ _ _ _ h)
set_option maxRecDepth 100000 in
set_option maxHeartbeats 4000000 in
theorem we_X8_move   (l1 : Int32) (l2 : Int32) (l3 : Int32) (l4 : Int32) (l5 : Int32) (mi : bv_Mem) (z : Int32 × bv_Mem) (h : f_X8_move  l1 l2 l3 l4 l5 mi = some z) : bv_Ev MX8_move bv_X0 3 74 74 (bv_QI z) 0 [some (.ref 61), some (.int l1), some (.int l2), some (.int l3), some (.int l4), some (.int l5), none, none, none] [] 74 (bv_mr mi) mi := by
  unfold f_X8_move at h
  refine ev_aload_n dX8_move_0 rfl ?_
  refine ev_iload_n dX8_move_1 rfl ?_
  refine ev_iload_n dX8_move_2 rfl ?_
  refine ev_iload_n dX8_move_3 rfl ?_
  refine ev_iload dX8_move_4 rfl ?_
  refine ev_iload dX8_move_6 rfl ?_
  obtain ⟨z1, hz1, h⟩ := bv_bd h
  refine er_VP [.int _, .int _, .int _, .int _, .int _] (fun _ _ q => q) lk_X8_262 dX8_move_8 rfl rfl rfl rfl rfl (wm_X8_notMoved _ _ _ _ _ _ _ hz1) ?_
  refine ev_istore dX8_move_11 rfl rfl ?_
  refine ev_iload dX8_move_13 rfl ?_
  refine ev_if_eq 25 dX8_move_15 (by decide) (fun c1 => ?_) (fun c1 => ?_)
  · replace h := bv_tt c1 h
    refine ev_iconst (0 : Int32) dX8_move_25 (by decide) ?_
    refine ev_istore dX8_move_26 rfl rfl ?_
    exact ev_weak (by exact And.intro rfl (And.intro rfl (And.intro rfl (And.intro rfl (And.intro rfl (And.intro rfl (And.intro rfl (trivial)))))))) (wb_X8_move_28  400 _ _ _ _ _ _ _ _ h)
  · replace h := bv_ff c1 h
    refine ev_aload_n dX8_move_18 rfl ?_
    refine ev_iload dX8_move_19 rfl ?_
    obtain ⟨z2, hz2, h⟩ := bv_bd h
    refine er_VI [.int _] (fun _ _ q => q) lk_X8_73 dX8_move_21 rfl rfl rfl rfl rfl (wm_X8_error _ _ _ hz2) ?_
    obtain rfl := Option.some.inj h
    exact ev_iret rfl dX8_move_24 ⟨rfl, rfl, rfl⟩
theorem wm_X8_move   (l1 : Int32) (l2 : Int32) (l3 : Int32) (l4 : Int32) (l5 : Int32) (mi : bv_Mem) (z : Int32 × bv_Mem) (h : f_X8_move  l1 l2 l3 l4 l5 mi = some z) : bv_Met yX8_move MX8_move bv_X0 3 74 74 [.ref 61, .int l1, .int l2, .int l3, .int l4, .int l5] (bv_mr mi) mi (bv_QI z) :=
  bv_Met.of (pn_X 8 (by decide)) rfl (fun q => absurd q Bool.false_ne_true) (Nat.le_of_ble_eq_true rfl) (we_X8_move   l1 l2 l3 l4 l5 mi z h)
set_option maxRecDepth 100000 in
set_option maxHeartbeats 4000000 in
theorem wb_X8_heights_18  : ∀ (fu : Nat) (l1 : Int32) (l3 : Int32) (mi : bv_Mem) (z : Int32 × bv_Mem), b_X8_heights_18 fu l1 l3 mi = some z → bv_Ev MX8_heights bv_X0 3 74 74 (bv_QI z) 18 [some (.ref 61), some (.int l1), none, some (.int l3)] [] 74 (bv_mr mi) mi := by
  intro fu
  induction fu with
  | zero =>
    intro l1 l3 mi z h
    rw [b_X8_heights_18] at h
    cases h
  | succ fu ih =>
    intro l1 l3 mi z h
    rw [b_X8_heights_18] at h
    refine ev_iload_n dX8_heights_18 rfl ?_
    refine ev_aload_n dX8_heights_19 rfl ?_
    refine ev_getR 72 lf_X8_40 dX8_heights_20 rfl rfl rfl ?_
    refine ev_iload_n dX8_heights_23 rfl ?_
    obtain ⟨g1, h⟩ := bv_gd h
    refine ev_iald (N := 4) dX8_heights_24 rfl g1 ?_
    refine ev_icmp_ge 80 dX8_heights_25 (by decide) (fun c1 => ?_) (fun c1 => ?_)
    · replace h := bv_tt c1 h
      refine ev_iload_n dX8_heights_80 rfl ?_
      obtain rfl := Option.some.inj h
      exact ev_iret rfl dX8_heights_81 ⟨rfl, rfl, rfl⟩
    · replace h := bv_ff c1 h
      refine ev_iload_n dX8_heights_28 rfl ?_
      refine ev_bipush (20 : Int32) dX8_heights_29 (by decide) ?_
      refine ev_icmp_ge 80 dX8_heights_31 (by decide) (fun c2 => ?_) (fun c2 => ?_)
      · replace h := bv_tt c2 h
        refine ev_iload_n dX8_heights_80 rfl ?_
        obtain rfl := Option.some.inj h
        exact ev_iret rfl dX8_heights_81 ⟨rfl, rfl, rfl⟩
      · replace h := bv_ff c2 h
        refine ev_aload_n dX8_heights_34 rfl ?_
        refine ev_getR 73 lf_X8_43 dX8_heights_35 rfl rfl rfl ?_
        refine ev_bipush (40 : Int32) dX8_heights_38 (by decide) ?_
        refine ev_iload_n dX8_heights_40 rfl ?_
        refine ev_imul dX8_heights_41 ?_
        refine ev_iload_n dX8_heights_42 rfl ?_
        refine ev_iadd dX8_heights_43 ?_
        obtain ⟨g2, h⟩ := bv_gd h
        refine ev_iald (N := 160) dX8_heights_44 rfl g2 ?_
        refine ev_iconst (0 : Int32) dX8_heights_45 (by decide) ?_
        refine ev_bipush (20 : Int32) dX8_heights_46 (by decide) ?_
        obtain ⟨z1, hz1, h⟩ := bv_bd h
        refine er_SP [.int _, .int _, .int _] (fun _ _ q => q) lk_X8_47 dX8_heights_48 rfl rfl rfl rfl (wm_X8_in _ _ _ _ _ hz1) ?_
        refine ev_if_eq 80 dX8_heights_51 (by decide) (fun c3 => ?_) (fun c3 => ?_)
        · replace h := bv_tt c3 h
          refine ev_iload_n dX8_heights_80 rfl ?_
          obtain rfl := Option.some.inj h
          exact ev_iret rfl dX8_heights_81 ⟨rfl, rfl, rfl⟩
        · replace h := bv_ff c3 h
          refine ev_aload_n dX8_heights_54 rfl ?_
          refine ev_getR 62 lf_X8_9 dX8_heights_55 rfl rfl rfl ?_
          refine ev_bipush (11 : Int32) dX8_heights_58 (by decide) ?_
          refine ev_iload_n dX8_heights_60 rfl ?_
          refine ev_iadd dX8_heights_61 ?_
          refine ev_aload_n dX8_heights_62 rfl ?_
          refine ev_getR 73 lf_X8_43 dX8_heights_63 rfl rfl rfl ?_
          refine ev_bipush (40 : Int32) dX8_heights_66 (by decide) ?_
          refine ev_iload_n dX8_heights_68 rfl ?_
          refine ev_imul dX8_heights_69 ?_
          refine ev_iload_n dX8_heights_70 rfl ?_
          refine ev_iadd dX8_heights_71 ?_
          refine ev_iald (N := 160) dX8_heights_72 rfl g2 ?_
          obtain ⟨g3, h⟩ := bv_gd h
          refine er_iast (N := 371) dX8_heights_73 rfl g3 ?_
          refine ev_iinc (l3 + 1) dX8_heights_74 rfl rfl rfl rfl ?_
          refine ev_goto 18 dX8_heights_77 (by decide) ?_
          exact ev_weak (by exact And.intro rfl (And.intro rfl (And.intro rfl (trivial)))) (ih _ _ _ _ h)
set_option maxRecDepth 100000 in
set_option maxHeartbeats 4000000 in
theorem we_X8_heights   (l1 : Int32) (mi : bv_Mem) (z : Int32 × bv_Mem) (h : f_X8_heights  l1 mi = some z) : bv_Ev MX8_heights bv_X0 3 74 74 (bv_QI z) 0 [some (.ref 61), some (.int l1), none, none] [] 74 (bv_mr mi) mi := by
  unfold f_X8_heights at h
  refine ev_aload_n dX8_heights_0 rfl ?_
  refine ev_iload_n dX8_heights_1 rfl ?_
  obtain ⟨z1, hz1, h⟩ := bv_bd h
  refine er_VP [.int _] (fun _ _ q => q) lk_X8_259 dX8_heights_2 rfl rfl rfl rfl rfl (wm_X8_notThere _ _ _ hz1) ?_
  refine ev_istore_n dX8_heights_5 rfl rfl ?_
  refine ev_iload_n dX8_heights_6 rfl ?_
  refine ev_if_eq 16 dX8_heights_7 (by decide) (fun c1 => ?_) (fun c1 => ?_)
  · replace h := bv_tt c1 h
    refine ev_iconst (0 : Int32) dX8_heights_16 (by decide) ?_
    refine ev_istore_n dX8_heights_17 rfl rfl ?_
    exact ev_weak (by exact And.intro rfl (And.intro rfl (And.intro rfl (trivial)))) (wb_X8_heights_18  400 _ _ _ _ h)
  · replace h := bv_ff c1 h
    refine ev_aload_n dX8_heights_10 rfl ?_
    refine ev_iload_n dX8_heights_11 rfl ?_
    obtain ⟨z2, hz2, h⟩ := bv_bd h
    refine er_VI [.int _] (fun _ _ q => q) lk_X8_73 dX8_heights_12 rfl rfl rfl rfl rfl (wm_X8_error _ _ _ hz2) ?_
    obtain rfl := Option.some.inj h
    exact ev_iret rfl dX8_heights_15 ⟨rfl, rfl, rfl⟩
theorem wm_X8_heights   (l1 : Int32) (mi : bv_Mem) (z : Int32 × bv_Mem) (h : f_X8_heights  l1 mi = some z) : bv_Met yX8_heights MX8_heights bv_X0 3 74 74 [.ref 61, .int l1] (bv_mr mi) mi (bv_QI z) :=
  bv_Met.of (pn_X 8 (by decide)) rfl (fun q => absurd q Bool.false_ne_true) (Nat.le_of_ble_eq_true rfl) (we_X8_heights   l1 mi z h)
set_option maxRecDepth 100000 in
set_option maxHeartbeats 4000000 in
theorem wb_X8_judge_63  (l1 : Int32) (l3 : Int32) (mi : bv_Mem) (z : Int32 × bv_Mem) (h : b_X8_judge_63 l1 l3 mi = some z) : bv_Ev MX8_judge bv_X0 3 74 74 (bv_QI z) 63 [some (.ref 61), some (.int l1), none, some (.int l3)] [] 74 (bv_mr mi) mi := by
  unfold b_X8_judge_63 at h
  refine ev_iload_n dX8_judge_63 rfl ?_
  refine ev_bipush (20 : Int32) dX8_judge_64 (by decide) ?_
  refine ev_icmp_ne 84 dX8_judge_66 (by decide) (fun c1 => ?_) (fun c1 => ?_)
  · replace h := bv_ff c1 h
    refine ev_iload_n dX8_judge_84 rfl ?_
    obtain rfl := Option.some.inj h
    exact ev_iret rfl dX8_judge_85 ⟨rfl, rfl, rfl⟩
  · replace h := bv_tt c1 h
    refine ev_aload_n dX8_judge_69 rfl ?_
    refine ev_getR 72 lf_X8_40 dX8_judge_70 rfl rfl rfl ?_
    refine ev_iload_n dX8_judge_73 rfl ?_
    obtain ⟨g1, h⟩ := bv_gd h
    refine ev_iald (N := 4) dX8_judge_74 rfl g1 ?_
    refine ev_bipush (20 : Int32) dX8_judge_75 (by decide) ?_
    refine ev_icmp_ne 84 dX8_judge_77 (by decide) (fun c2 => ?_) (fun c2 => ?_)
    · replace h := bv_ff c2 h
      refine ev_iload_n dX8_judge_84 rfl ?_
      obtain rfl := Option.some.inj h
      exact ev_iret rfl dX8_judge_85 ⟨rfl, rfl, rfl⟩
    · replace h := bv_tt c2 h
      refine ev_iconst (-1 : Int32) dX8_judge_80 (by decide) ?_
      refine ev_goto 85 dX8_judge_81 (by decide) ?_
      obtain rfl := Option.some.inj h
      exact ev_iret rfl dX8_judge_85 ⟨rfl, rfl, rfl⟩
set_option maxRecDepth 100000 in
set_option maxHeartbeats 4000000 in
theorem wb_X8_judge_18  : ∀ (fu : Nat) (l1 : Int32) (l3 : Int32) (mi : bv_Mem) (z : Int32 × bv_Mem), b_X8_judge_18 fu l1 l3 mi = some z → bv_Ev MX8_judge bv_X0 3 74 74 (bv_QI z) 18 [some (.ref 61), some (.int l1), none, some (.int l3)] [] 74 (bv_mr mi) mi := by
  intro fu
  induction fu with
  | zero =>
    intro l1 l3 mi z h
    rw [b_X8_judge_18] at h
    cases h
  | succ fu ih =>
    intro l1 l3 mi z h
    rw [b_X8_judge_18] at h
    refine ev_iload_n dX8_judge_18 rfl ?_
    refine ev_aload_n dX8_judge_19 rfl ?_
    refine ev_getR 72 lf_X8_40 dX8_judge_20 rfl rfl rfl ?_
    refine ev_iload_n dX8_judge_23 rfl ?_
    obtain ⟨g1, h⟩ := bv_gd h
    refine ev_iald (N := 4) dX8_judge_24 rfl g1 ?_
    refine ev_icmp_ge 63 dX8_judge_25 (by decide) (fun c1 => ?_) (fun c1 => ?_)
    · replace h := bv_tt c1 h
      exact ev_weak (by exact And.intro rfl (And.intro rfl (And.intro rfl (trivial)))) (wb_X8_judge_63  _ _ _ _ h)
    · replace h := bv_ff c1 h
      refine ev_iload_n dX8_judge_28 rfl ?_
      refine ev_bipush (20 : Int32) dX8_judge_29 (by decide) ?_
      refine ev_icmp_ge 63 dX8_judge_31 (by decide) (fun c2 => ?_) (fun c2 => ?_)
      · replace h := bv_tt c2 h
        exact ev_weak (by exact And.intro rfl (And.intro rfl (And.intro rfl (trivial)))) (wb_X8_judge_63  _ _ _ _ h)
      · replace h := bv_ff c2 h
        refine ev_aload_n dX8_judge_34 rfl ?_
        refine ev_getR 73 lf_X8_43 dX8_judge_35 rfl rfl rfl ?_
        refine ev_bipush (40 : Int32) dX8_judge_38 (by decide) ?_
        refine ev_iload_n dX8_judge_40 rfl ?_
        refine ev_imul dX8_judge_41 ?_
        refine ev_iload_n dX8_judge_42 rfl ?_
        refine ev_iadd dX8_judge_43 ?_
        obtain ⟨g2, h⟩ := bv_gd h
        refine ev_iald (N := 160) dX8_judge_44 rfl g2 ?_
        refine ev_aload_n dX8_judge_45 rfl ?_
        refine ev_getR 62 lf_X8_9 dX8_judge_46 rfl rfl rfl ?_
        refine ev_bipush (31 : Int32) dX8_judge_49 (by decide) ?_
        refine ev_iload_n dX8_judge_51 rfl ?_
        refine ev_iadd dX8_judge_52 ?_
        obtain ⟨g3, h⟩ := bv_gd h
        refine ev_iald (N := 371) dX8_judge_53 rfl g3 ?_
        refine ev_icmp_ne 63 dX8_judge_54 (by decide) (fun c3 => ?_) (fun c3 => ?_)
        · replace h := bv_ff c3 h
          exact ev_weak (by exact And.intro rfl (And.intro rfl (And.intro rfl (trivial)))) (wb_X8_judge_63  _ _ _ _ h)
        · replace h := bv_tt c3 h
          refine ev_iinc (l3 + 1) dX8_judge_57 rfl rfl rfl rfl ?_
          refine ev_goto 18 dX8_judge_60 (by decide) ?_
          exact ev_weak (by exact And.intro rfl (And.intro rfl (And.intro rfl (trivial)))) (ih _ _ _ _ h)
set_option maxRecDepth 100000 in
set_option maxHeartbeats 4000000 in
theorem we_X8_judge   (l1 : Int32) (mi : bv_Mem) (z : Int32 × bv_Mem) (h : f_X8_judge  l1 mi = some z) : bv_Ev MX8_judge bv_X0 3 74 74 (bv_QI z) 0 [some (.ref 61), some (.int l1), none, none] [] 74 (bv_mr mi) mi := by
  unfold f_X8_judge at h
  refine ev_aload_n dX8_judge_0 rfl ?_
  refine ev_iload_n dX8_judge_1 rfl ?_
  obtain ⟨z1, hz1, h⟩ := bv_bd h
  refine er_VP [.int _] (fun _ _ q => q) lk_X8_259 dX8_judge_2 rfl rfl rfl rfl rfl (wm_X8_notThere _ _ _ hz1) ?_
  refine ev_istore_n dX8_judge_5 rfl rfl ?_
  refine ev_iload_n dX8_judge_6 rfl ?_
  refine ev_if_eq 16 dX8_judge_7 (by decide) (fun c1 => ?_) (fun c1 => ?_)
  · replace h := bv_tt c1 h
    refine ev_iconst (0 : Int32) dX8_judge_16 (by decide) ?_
    refine ev_istore_n dX8_judge_17 rfl rfl ?_
    exact ev_weak (by exact And.intro rfl (And.intro rfl (And.intro rfl (trivial)))) (wb_X8_judge_18  400 _ _ _ _ h)
  · replace h := bv_ff c1 h
    refine ev_aload_n dX8_judge_10 rfl ?_
    refine ev_iload_n dX8_judge_11 rfl ?_
    obtain ⟨z2, hz2, h⟩ := bv_bd h
    refine er_VI [.int _] (fun _ _ q => q) lk_X8_73 dX8_judge_12 rfl rfl rfl rfl rfl (wm_X8_error _ _ _ hz2) ?_
    obtain rfl := Option.some.inj h
    exact ev_iret rfl dX8_judge_15 ⟨rfl, rfl, rfl⟩
theorem wm_X8_judge   (l1 : Int32) (mi : bv_Mem) (z : Int32 × bv_Mem) (h : f_X8_judge  l1 mi = some z) : bv_Met yX8_judge MX8_judge bv_X0 3 74 74 [.ref 61, .int l1] (bv_mr mi) mi (bv_QI z) :=
  bv_Met.of (pn_X 8 (by decide)) rfl (fun q => absurd q Bool.false_ne_true) (Nat.le_of_ble_eq_true rfl) (we_X8_judge   l1 mi z h)
set_option maxRecDepth 100000 in
set_option maxHeartbeats 4000000 in
theorem wb_X8_copyAll_62_63_2  : ∀ (fu : Nat) (l2 : Int32) (mi : bv_Mem) (z : bv_Mem), b_X8_copyAll_62_63_2 fu l2 mi = some z → bv_Ev MX8_copyAll bv_X0 0 74 74 (bv_QV z) 2 [some (.ref 62), some (.ref 63), some (.int l2)] [] 74 (bv_mr mi) mi := by
  intro fu
  induction fu with
  | zero =>
    intro l2 mi z h
    rw [b_X8_copyAll_62_63_2] at h
    cases h
  | succ fu ih =>
    intro l2 mi z h
    rw [b_X8_copyAll_62_63_2] at h
    refine ev_iload_n dX8_copyAll_2 rfl ?_
    refine ev_sipush (371 : Int32) dX8_copyAll_3 (by decide) ?_
    refine ev_icmp_ge 21 dX8_copyAll_6 (by decide) (fun c1 => ?_) (fun c1 => ?_)
    · replace h := bv_tt c1 h
      obtain rfl := Option.some.inj h
      exact ev_vret rfl dX8_copyAll_21 ⟨rfl, rfl, rfl⟩
    · replace h := bv_ff c1 h
      refine ev_aload_n dX8_copyAll_9 rfl ?_
      refine ev_iload_n dX8_copyAll_10 rfl ?_
      refine ev_aload_n dX8_copyAll_11 rfl ?_
      refine ev_iload_n dX8_copyAll_12 rfl ?_
      obtain ⟨g1, h⟩ := bv_gd h
      refine ev_iald (N := 371) dX8_copyAll_13 rfl g1 ?_
      refine er_iast (N := 371) dX8_copyAll_14 rfl g1 ?_
      refine ev_iinc (l2 + 1) dX8_copyAll_15 rfl rfl rfl rfl ?_
      refine ev_goto 2 dX8_copyAll_18 (by decide) ?_
      exact ev_weak (by exact And.intro rfl (And.intro rfl (And.intro rfl (trivial)))) (ih _ _ _ h)
set_option maxRecDepth 100000 in
set_option maxHeartbeats 4000000 in
theorem we_X8_copyAll_62_63    (mi : bv_Mem) (z : bv_Mem) (h : f_X8_copyAll_62_63  mi = some z) : bv_Ev MX8_copyAll bv_X0 0 74 74 (bv_QV z) 0 [some (.ref 62), some (.ref 63), none] [] 74 (bv_mr mi) mi := by
  unfold f_X8_copyAll_62_63 at h
  refine ev_iconst (0 : Int32) dX8_copyAll_0 (by decide) ?_
  refine ev_istore_n dX8_copyAll_1 rfl rfl ?_
  exact ev_weak (by exact And.intro rfl (And.intro rfl (And.intro rfl (trivial)))) (wb_X8_copyAll_62_63_2  400 _ _ _ h)
theorem wm_X8_copyAll_62_63    (mi : bv_Mem) (z : bv_Mem) (h : f_X8_copyAll_62_63  mi = some z) : bv_Met yX8_copyAll MX8_copyAll bv_X0 0 74 74 [.ref 62, .ref 63] (bv_mr mi) mi (bv_QV z) :=
  bv_Met.of (pn_X 8 (by decide)) rfl (fun q => absurd q Bool.false_ne_true) (Nat.le_of_ble_eq_true rfl) (we_X8_copyAll_62_63   mi z h)
set_option maxRecDepth 100000 in
set_option maxHeartbeats 4000000 in
theorem we_X8_image    (mi : bv_Mem) (z : Int32 × bv_Mem) (h : f_X8_image  mi = some z) : bv_Ev MX8_image bv_X0 1 74 74 (bv_QI z) 0 [some (.ref 61)] [] 74 (bv_mr mi) mi := by
  unfold f_X8_image at h
  refine ev_aload_n dX8_image_0 rfl ?_
  refine ev_getR 62 lf_X8_9 dX8_image_1 rfl rfl rfl ?_
  refine ev_aload_n dX8_image_4 rfl ?_
  refine ev_getR 63 lf_X8_13 dX8_image_5 rfl rfl rfl ?_
  obtain ⟨z1, hz1, h⟩ := bv_bd h
  refine er_SV [.ref _, .ref _] (fun _ _ q => q) lk_X8_203 dX8_image_8 rfl rfl rfl rfl (wm_X8_copyAll_62_63  _ _ hz1) ?_
  refine ev_aload_n dX8_image_11 rfl ?_
  refine ev_dup dX8_image_12 rfl ?_
  refine ev_getI lf_X8_266 dX8_image_13 rfl rfl ?_
  refine ev_iconst (1 : Int32) dX8_image_16 (by decide) ?_
  refine ev_iadd dX8_image_17 ?_
  refine er_putI lf_X8_266 dX8_image_18 rfl rfl rfl rfl ?_
  refine ev_aload_n dX8_image_21 rfl ?_
  refine ev_getI lf_X8_266 dX8_image_22 rfl rfl ?_
  obtain rfl := Option.some.inj h
  exact ev_iret rfl dX8_image_25 ⟨rfl, rfl, rfl⟩
theorem wm_X8_image    (mi : bv_Mem) (z : Int32 × bv_Mem) (h : f_X8_image  mi = some z) : bv_Met yX8_image MX8_image bv_X0 1 74 74 [.ref 61] (bv_mr mi) mi (bv_QI z) :=
  bv_Met.of (pn_X 8 (by decide)) rfl (fun q => absurd q Bool.false_ne_true) (Nat.le_of_ble_eq_true rfl) (we_X8_image   mi z h)
set_option maxRecDepth 100000 in
set_option maxHeartbeats 4000000 in
theorem wb_X8_copyAll_63_62_2  : ∀ (fu : Nat) (l2 : Int32) (mi : bv_Mem) (z : bv_Mem), b_X8_copyAll_63_62_2 fu l2 mi = some z → bv_Ev MX8_copyAll bv_X0 0 74 74 (bv_QV z) 2 [some (.ref 63), some (.ref 62), some (.int l2)] [] 74 (bv_mr mi) mi := by
  intro fu
  induction fu with
  | zero =>
    intro l2 mi z h
    rw [b_X8_copyAll_63_62_2] at h
    cases h
  | succ fu ih =>
    intro l2 mi z h
    rw [b_X8_copyAll_63_62_2] at h
    refine ev_iload_n dX8_copyAll_2 rfl ?_
    refine ev_sipush (371 : Int32) dX8_copyAll_3 (by decide) ?_
    refine ev_icmp_ge 21 dX8_copyAll_6 (by decide) (fun c1 => ?_) (fun c1 => ?_)
    · replace h := bv_tt c1 h
      obtain rfl := Option.some.inj h
      exact ev_vret rfl dX8_copyAll_21 ⟨rfl, rfl, rfl⟩
    · replace h := bv_ff c1 h
      refine ev_aload_n dX8_copyAll_9 rfl ?_
      refine ev_iload_n dX8_copyAll_10 rfl ?_
      refine ev_aload_n dX8_copyAll_11 rfl ?_
      refine ev_iload_n dX8_copyAll_12 rfl ?_
      obtain ⟨g1, h⟩ := bv_gd h
      refine ev_iald (N := 371) dX8_copyAll_13 rfl g1 ?_
      refine er_iast (N := 371) dX8_copyAll_14 rfl g1 ?_
      refine ev_iinc (l2 + 1) dX8_copyAll_15 rfl rfl rfl rfl ?_
      refine ev_goto 2 dX8_copyAll_18 (by decide) ?_
      exact ev_weak (by exact And.intro rfl (And.intro rfl (And.intro rfl (trivial)))) (ih _ _ _ h)
set_option maxRecDepth 100000 in
set_option maxHeartbeats 4000000 in
theorem we_X8_copyAll_63_62    (mi : bv_Mem) (z : bv_Mem) (h : f_X8_copyAll_63_62  mi = some z) : bv_Ev MX8_copyAll bv_X0 0 74 74 (bv_QV z) 0 [some (.ref 63), some (.ref 62), none] [] 74 (bv_mr mi) mi := by
  unfold f_X8_copyAll_63_62 at h
  refine ev_iconst (0 : Int32) dX8_copyAll_0 (by decide) ?_
  refine ev_istore_n dX8_copyAll_1 rfl rfl ?_
  exact ev_weak (by exact And.intro rfl (And.intro rfl (And.intro rfl (trivial)))) (wb_X8_copyAll_63_62_2  400 _ _ _ h)
theorem wm_X8_copyAll_63_62    (mi : bv_Mem) (z : bv_Mem) (h : f_X8_copyAll_63_62  mi = some z) : bv_Met yX8_copyAll MX8_copyAll bv_X0 0 74 74 [.ref 63, .ref 62] (bv_mr mi) mi (bv_QV z) :=
  bv_Met.of (pn_X 8 (by decide)) rfl (fun q => absurd q Bool.false_ne_true) (Nat.le_of_ble_eq_true rfl) (we_X8_copyAll_63_62   mi z h)
set_option maxRecDepth 100000 in
set_option maxHeartbeats 4000000 in
theorem we_X8_restore    (mi : bv_Mem) (z : Int32 × bv_Mem) (h : f_X8_restore  mi = some z) : bv_Ev MX8_restore bv_X0 1 74 74 (bv_QI z) 0 [some (.ref 61)] [] 74 (bv_mr mi) mi := by
  unfold f_X8_restore at h
  refine ev_aload_n dX8_restore_0 rfl ?_
  refine ev_getI lf_X8_266 dX8_restore_1 rfl rfl ?_
  refine ev_if_ne 14 dX8_restore_4 (by decide) (fun c1 => ?_) (fun c1 => ?_)
  · replace h := bv_ff c1 h
    refine ev_aload_n dX8_restore_14 rfl ?_
    refine ev_getR 63 lf_X8_13 dX8_restore_15 rfl rfl rfl ?_
    refine ev_aload_n dX8_restore_18 rfl ?_
    refine ev_getR 62 lf_X8_9 dX8_restore_19 rfl rfl rfl ?_
    obtain ⟨z1, hz1, h⟩ := bv_bd h
    refine er_SV [.ref _, .ref _] (fun _ _ q => q) lk_X8_203 dX8_restore_22 rfl rfl rfl rfl (wm_X8_copyAll_63_62  _ _ hz1) ?_
    refine ev_aload_n dX8_restore_25 rfl ?_
    refine ev_getR 62 lf_X8_9 dX8_restore_26 rfl rfl rfl ?_
    refine ev_iconst (0 : Int32) dX8_restore_29 (by decide) ?_
    refine er_ialdk (N := 371) 0 dX8_restore_30 rfl rfl rfl ?_
    obtain rfl := Option.some.inj h
    exact ev_iret rfl dX8_restore_31 ⟨rfl, rfl, rfl⟩
  · replace h := bv_tt c1 h
    refine ev_aload_n dX8_restore_7 rfl ?_
    refine ev_ldc (-1000000002 : Int32) dX8_restore_8 lc_X8_213 ?_
    obtain ⟨z2, hz2, h⟩ := bv_bd h
    refine er_VI [.int _] (fun _ _ q => q) lk_X8_73 dX8_restore_10 rfl rfl rfl rfl rfl (wm_X8_error _ _ _ hz2) ?_
    obtain rfl := Option.some.inj h
    exact ev_iret rfl dX8_restore_13 ⟨rfl, rfl, rfl⟩
theorem wm_X8_restore    (mi : bv_Mem) (z : Int32 × bv_Mem) (h : f_X8_restore  mi = some z) : bv_Met yX8_restore MX8_restore bv_X0 1 74 74 [.ref 61] (bv_mr mi) mi (bv_QI z) :=
  bv_Met.of (pn_X 8 (by decide)) rfl (fun q => absurd q Bool.false_ne_true) (Nat.le_of_ble_eq_true rfl) (we_X8_restore   mi z h)
set_option maxRecDepth 100000 in
set_option maxHeartbeats 4000000 in
theorem we_X8_tell   (l1 : Int32) (mi : bv_Mem) (z : Int32 × bv_Mem) (h : f_X8_tell  l1 mi = some z) : bv_Ev MX8_tell bv_X0 1 74 74 (bv_QI z) 0 [some (.ref 61), some (.int l1)] [] 74 (bv_mr mi) mi := by
  unfold f_X8_tell at h
  refine ev_aload_n dX8_tell_0 rfl ?_
  refine ev_getR 62 lf_X8_9 dX8_tell_1 rfl rfl rfl ?_
  refine ev_iconst (5 : Int32) dX8_tell_4 (by decide) ?_
  refine er_ialdk (N := 371) 5 dX8_tell_5 rfl rfl rfl ?_
  refine ev_bipush (20 : Int32) dX8_tell_6 (by decide) ?_
  refine ev_icmp_ne 18 dX8_tell_8 (by decide) (fun c1 => ?_) (fun c1 => ?_)
  · replace h := bv_ff c1 h
    refine ev_aload_n dX8_tell_18 rfl ?_
    refine ev_getR 62 lf_X8_9 dX8_tell_19 rfl rfl rfl ?_
    refine ev_sipush (149 : Int32) dX8_tell_22 (by decide) ?_
    refine ev_aload_n dX8_tell_25 rfl ?_
    refine ev_getR 62 lf_X8_9 dX8_tell_26 rfl rfl rfl ?_
    refine ev_iconst (5 : Int32) dX8_tell_29 (by decide) ?_
    refine er_ialdk (N := 371) 5 dX8_tell_30 rfl rfl rfl ?_
    refine ev_iadd dX8_tell_31 ?_
    refine ev_iload_n dX8_tell_32 rfl ?_
    obtain ⟨g1, h⟩ := bv_gd h
    refine er_iast (N := 371) dX8_tell_33 rfl g1 ?_
    refine ev_aload_n dX8_tell_34 rfl ?_
    refine ev_getR 62 lf_X8_9 dX8_tell_35 rfl rfl rfl ?_
    refine ev_iconst (5 : Int32) dX8_tell_38 (by decide) ?_
    refine ev_dup2 dX8_tell_39 rfl rfl ?_
    refine er_ialdk (N := 371) 5 dX8_tell_40 rfl rfl rfl ?_
    refine ev_iconst (1 : Int32) dX8_tell_41 (by decide) ?_
    refine ev_iadd dX8_tell_42 ?_
    refine er_iastk (N := 371) 5 dX8_tell_43 rfl rfl rfl ?_
    refine ev_aload_n dX8_tell_44 rfl ?_
    refine ev_getR 62 lf_X8_9 dX8_tell_45 rfl rfl rfl ?_
    refine ev_iconst (5 : Int32) dX8_tell_48 (by decide) ?_
    refine er_ialdk (N := 371) 5 dX8_tell_49 rfl rfl rfl ?_
    obtain rfl := Option.some.inj h
    exact ev_iret rfl dX8_tell_50 ⟨rfl, rfl, rfl⟩
  · replace h := bv_tt c1 h
    refine ev_aload_n dX8_tell_11 rfl ?_
    refine ev_ldc (-1000000004 : Int32) dX8_tell_12 lc_X8_85 ?_
    obtain ⟨z1, hz1, h⟩ := bv_bd h
    refine er_VI [.int _] (fun _ _ q => q) lk_X8_73 dX8_tell_14 rfl rfl rfl rfl rfl (wm_X8_error _ _ _ hz1) ?_
    obtain rfl := Option.some.inj h
    exact ev_iret rfl dX8_tell_17 ⟨rfl, rfl, rfl⟩
theorem wm_X8_tell   (l1 : Int32) (mi : bv_Mem) (z : Int32 × bv_Mem) (h : f_X8_tell  l1 mi = some z) : bv_Met yX8_tell MX8_tell bv_X0 1 74 74 [.ref 61, .int l1] (bv_mr mi) mi (bv_QI z) :=
  bv_Met.of (pn_X 8 (by decide)) rfl (fun q => absurd q Bool.false_ne_true) (Nat.le_of_ble_eq_true rfl) (we_X8_tell   l1 mi z h)
set_option maxRecDepth 100000 in
set_option maxHeartbeats 4000000 in
theorem wb_X8_check_22  : ∀ (fu : Nat) (l1 : Int32) (l2 : Int32) (l3 : Int32) (mi : bv_Mem) (z : Int32 × bv_Mem), b_X8_check_22 fu l1 l2 l3 mi = some z → bv_Ev MX8_check bv_X0 2 74 74 (bv_QI z) 22 [some (.ref 61), some (.int l1), some (.int l2), some (.int l3)] [] 74 (bv_mr mi) mi := by
  intro fu
  induction fu with
  | zero =>
    intro l1 l2 l3 mi z h
    rw [b_X8_check_22] at h
    cases h
  | succ fu ih =>
    intro l1 l2 l3 mi z h
    rw [b_X8_check_22] at h
    refine ev_iload_n dX8_check_22 rfl ?_
    refine ev_iload_n dX8_check_23 rfl ?_
    refine ev_icmp_ge 66 dX8_check_24 (by decide) (fun c1 => ?_) (fun c1 => ?_)
    · replace h := bv_tt c1 h
      refine ev_aload_n dX8_check_66 rfl ?_
      obtain ⟨z1, hz1, h⟩ := bv_bd h
      refine er_VV [] (fun _ _ q => q) lk_X8_210 dX8_check_67 rfl rfl rfl rfl rfl (wm_X8_putsBack  _ _ hz1) ?_
      refine ev_iload_n dX8_check_70 rfl ?_
      obtain rfl := Option.some.inj h
      exact ev_iret rfl dX8_check_71 ⟨rfl, rfl, rfl⟩
    · replace h := bv_ff c1 h
      refine ev_iload_n dX8_check_27 rfl ?_
      refine ev_if_ne 66 dX8_check_28 (by decide) (fun c2 => ?_) (fun c2 => ?_)
      · replace h := bv_ff c2 h
        refine ev_aload_n dX8_check_66 rfl ?_
        obtain ⟨z2, hz2, h⟩ := bv_bd h
        refine er_VV [] (fun _ _ q => q) lk_X8_210 dX8_check_67 rfl rfl rfl rfl rfl (wm_X8_putsBack  _ _ hz2) ?_
        refine ev_iload_n dX8_check_70 rfl ?_
        obtain rfl := Option.some.inj h
        exact ev_iret rfl dX8_check_71 ⟨rfl, rfl, rfl⟩
      · replace h := bv_tt c2 h
        refine ev_aload_n dX8_check_31 rfl ?_
        obtain ⟨z3, hz3, h⟩ := bv_bd h
        refine er_VV [] (fun _ _ q => q) lk_X8_190 dX8_check_32 rfl rfl rfl rfl rfl (wm_X8_day  _ _ hz3) ?_
        refine ev_aload_n dX8_check_35 rfl ?_
        refine ev_getR 62 lf_X8_9 dX8_check_36 rfl rfl rfl ?_
        refine ev_sipush (149 : Int32) dX8_check_39 (by decide) ?_
        refine ev_iload_n dX8_check_42 rfl ?_
        refine ev_iadd dX8_check_43 ?_
        obtain ⟨g1, h⟩ := bv_gd h
        refine ev_iald (N := 371) dX8_check_44 rfl g1 ?_
        refine ev_aload_n dX8_check_45 rfl ?_
        obtain ⟨z4, hz4, h⟩ := bv_bd h
        refine er_VP [] (fun _ _ q => q) lk_X8_196 dX8_check_46 rfl rfl rfl rfl rfl (wm_X8_missing  _ _ hz4) ?_
        refine ev_icmp_ne 56 dX8_check_49 (by decide) (fun c3 => ?_) (fun c3 => ?_)
        · replace h := bv_ff c3 h
          refine ev_iconst (1 : Int32) dX8_check_56 (by decide) ?_
          refine ev_iload_n dX8_check_57 rfl ?_
          refine ev_iadd dX8_check_58 ?_
          refine ev_istore_n dX8_check_59 rfl rfl ?_
          refine ev_iinc (l3 + 1) dX8_check_60 rfl rfl rfl rfl ?_
          refine ev_goto 22 dX8_check_63 (by decide) ?_
          exact ev_weak (by exact And.intro rfl (And.intro rfl (And.intro rfl (And.intro rfl (trivial))))) (ih _ _ _ _ _ h)
        · replace h := bv_tt c3 h
          refine ev_iconst (0 : Int32) dX8_check_52 (by decide) ?_
          refine ev_goto 59 dX8_check_53 (by decide) ?_
          refine ev_istore_n dX8_check_59 rfl rfl ?_
          refine ev_iinc (l3 + 1) dX8_check_60 rfl rfl rfl rfl ?_
          refine ev_goto 22 dX8_check_63 (by decide) ?_
          exact ev_weak (by exact And.intro rfl (And.intro rfl (And.intro rfl (And.intro rfl (trivial))))) (ih _ _ _ _ _ h)
set_option maxRecDepth 100000 in
set_option maxHeartbeats 4000000 in
theorem we_X8_check    (mi : bv_Mem) (z : Int32 × bv_Mem) (h : f_X8_check  mi = some z) : bv_Ev MX8_check bv_X0 2 74 74 (bv_QI z) 0 [some (.ref 61), none, none, none] [] 74 (bv_mr mi) mi := by
  unfold f_X8_check at h
  refine ev_aload_n dX8_check_0 rfl ?_
  refine ev_getR 62 lf_X8_9 dX8_check_1 rfl rfl rfl ?_
  refine ev_iconst (5 : Int32) dX8_check_4 (by decide) ?_
  refine er_ialdk (N := 371) 5 dX8_check_5 rfl rfl rfl ?_
  refine ev_istore_n dX8_check_6 rfl rfl ?_
  refine ev_aload_n dX8_check_7 rfl ?_
  refine ev_getR 62 lf_X8_9 dX8_check_8 rfl rfl rfl ?_
  refine ev_iconst (5 : Int32) dX8_check_11 (by decide) ?_
  refine ev_iconst (0 : Int32) dX8_check_12 (by decide) ?_
  refine er_iastk (N := 371) 5 dX8_check_13 rfl rfl rfl ?_
  refine ev_aload_n dX8_check_14 rfl ?_
  obtain ⟨z1, hz1, h⟩ := bv_bd h
  refine er_VV [] (fun _ _ q => q) lk_X8_207 dX8_check_15 rfl rfl rfl rfl rfl (wm_X8_thinks  _ _ hz1) ?_
  refine ev_iconst (0 : Int32) dX8_check_18 (by decide) ?_
  refine ev_istore_n dX8_check_19 rfl rfl ?_
  refine ev_iconst (0 : Int32) dX8_check_20 (by decide) ?_
  refine ev_istore_n dX8_check_21 rfl rfl ?_
  exact ev_weak (by exact And.intro rfl (And.intro rfl (And.intro rfl (And.intro rfl (trivial))))) (wb_X8_check_22  400 _ _ _ _ _ h)
theorem wm_X8_check    (mi : bv_Mem) (z : Int32 × bv_Mem) (h : f_X8_check  mi = some z) : bv_Met yX8_check MX8_check bv_X0 2 74 74 [.ref 61] (bv_mr mi) mi (bv_QI z) :=
  bv_Met.of (pn_X 8 (by decide)) rfl (fun q => absurd q Bool.false_ne_true) (Nat.le_of_ble_eq_true rfl) (we_X8_check   mi z h)
set_option maxRecDepth 100000 in
set_option maxHeartbeats 4000000 in
theorem wb_X8_count_113  : ∀ (fu : Nat) (l2 : Int32) (l3 : Int32) (mi : bv_Mem) (z : Int32 × bv_Mem), b_X8_count_113 fu l2 l3 mi = some z → bv_Ev MX8_count bv_X0 5 74 74 (bv_QI z) 113 [some (.ref 61), none, some (.int l2), some (.int l3)] [] 74 (bv_mr mi) mi := by
  intro fu
  induction fu with
  | zero =>
    intro l2 l3 mi z h
    rw [b_X8_count_113] at h
    cases h
  | succ fu ih =>
    intro l2 l3 mi z h
    rw [b_X8_count_113] at h
    refine ev_iload_n dX8_count_113 rfl ?_
    refine ev_aload_n dX8_count_114 rfl ?_
    refine ev_getR 62 lf_X8_9 dX8_count_115 rfl rfl rfl ?_
    refine ev_iconst (3 : Int32) dX8_count_118 (by decide) ?_
    refine er_ialdk (N := 371) 3 dX8_count_119 rfl rfl rfl ?_
    refine ev_icmp_ge 137 dX8_count_120 (by decide) (fun c1 => ?_) (fun c1 => ?_)
    · replace h := bv_tt c1 h
      refine ev_iload_n dX8_count_137 rfl ?_
      obtain rfl := Option.some.inj h
      exact ev_iret rfl dX8_count_138 ⟨rfl, rfl, rfl⟩
    · replace h := bv_ff c1 h
      refine ev_iload_n dX8_count_123 rfl ?_
      refine ev_aload_n dX8_count_124 rfl ?_
      refine ev_iload_n dX8_count_125 rfl ?_
      obtain ⟨z1, hz1, h⟩ := bv_bd h
      refine er_VI [.int _] (fun _ _ q => q) lk_X8_118 dX8_count_126 rfl rfl rfl rfl rfl (wm_X8_costsOf _ _ _ hz1) ?_
      refine ev_iadd dX8_count_129 ?_
      refine ev_istore_n dX8_count_130 rfl rfl ?_
      refine ev_iinc (l3 + 1) dX8_count_131 rfl rfl rfl rfl ?_
      refine ev_goto 113 dX8_count_134 (by decide) ?_
      exact ev_weak (by exact And.intro rfl (And.intro rfl (And.intro rfl (trivial)))) (ih _ _ _ _ h)
set_option maxRecDepth 100000 in
set_option maxHeartbeats 4000000 in
theorem wb_X8_count_84  : ∀ (fu : Nat) (l2 : Int32) (l3 : Int32) (mi : bv_Mem) (z : Int32 × bv_Mem), b_X8_count_84 fu l2 l3 mi = some z → bv_Ev MX8_count bv_X0 5 74 74 (bv_QI z) 84 [some (.ref 61), none, some (.int l2), some (.int l3)] [] 74 (bv_mr mi) mi := by
  intro fu
  induction fu with
  | zero =>
    intro l2 l3 mi z h
    rw [b_X8_count_84] at h
    cases h
  | succ fu ih =>
    intro l2 l3 mi z h
    rw [b_X8_count_84] at h
    refine ev_iload_n dX8_count_84 rfl ?_
    refine ev_aload_n dX8_count_85 rfl ?_
    refine ev_getR 62 lf_X8_9 dX8_count_86 rfl rfl rfl ?_
    refine ev_iconst (3 : Int32) dX8_count_89 (by decide) ?_
    refine er_ialdk (N := 371) 3 dX8_count_90 rfl rfl rfl ?_
    refine ev_icmp_ge 109 dX8_count_91 (by decide) (fun c1 => ?_) (fun c1 => ?_)
    · replace h := bv_tt c1 h
      refine ev_iload_n dX8_count_109 rfl ?_
      obtain rfl := Option.some.inj h
      exact ev_iret rfl dX8_count_110 ⟨rfl, rfl, rfl⟩
    · replace h := bv_ff c1 h
      refine ev_iload_n dX8_count_94 rfl ?_
      refine ev_aload_n dX8_count_95 rfl ?_
      refine ev_iload_n dX8_count_96 rfl ?_
      refine ev_iconst (5 : Int32) dX8_count_97 (by decide) ?_
      obtain ⟨z1, hz1, h⟩ := bv_bd h
      refine er_VP [.int _, .int _] (fun _ _ q => q) lk_X8_89 dX8_count_98 rfl rfl rfl rfl rfl (wm_X8_of _ _ _ _ hz1) ?_
      refine ev_iadd dX8_count_101 ?_
      refine ev_istore_n dX8_count_102 rfl rfl ?_
      refine ev_iinc (l3 + 1) dX8_count_103 rfl rfl rfl rfl ?_
      refine ev_goto 84 dX8_count_106 (by decide) ?_
      exact ev_weak (by exact And.intro rfl (And.intro rfl (And.intro rfl (trivial)))) (ih _ _ _ _ h)
set_option maxRecDepth 100000 in
set_option maxHeartbeats 4000000 in
theorem we_X8_count   (l1 : Int32) (mi : bv_Mem) (z : Int32 × bv_Mem) (h : f_X8_count  l1 mi = some z) : bv_Ev MX8_count bv_X0 5 74 74 (bv_QI z) 0 [some (.ref 61), some (.int l1), none, none] [] 74 (bv_mr mi) mi := by
  unfold f_X8_count at h
  refine ev_iconst (0 : Int32) dX8_count_0 (by decide) ?_
  refine ev_istore_n dX8_count_1 rfl rfl ?_
  refine ev_iload_n dX8_count_2 rfl ?_
  by_cases c1 : l1 = (0 : Int32)
  · replace h := bv_tt c1 h
    refine ev_tableIn (53) 56 dX8_count_3 (by rw [c1]; decide) (by rw [c1]; decide) (by rw [c1]; decide) (by decide) ?_
    refine ev_aload_n dX8_count_56 rfl ?_
    refine ev_getR 62 lf_X8_9 dX8_count_57 rfl rfl rfl ?_
    refine ev_iconst (2 : Int32) dX8_count_60 (by decide) ?_
    refine er_ialdk (N := 371) 2 dX8_count_61 rfl rfl rfl ?_
    obtain rfl := Option.some.inj h
    exact ev_iret rfl dX8_count_62 ⟨rfl, rfl, rfl⟩
  replace h := bv_ff c1 h
  by_cases c2 : l1 = (1 : Int32)
  · replace h := bv_tt c2 h
    refine ev_tableIn (60) 63 dX8_count_3 (by rw [c2]; decide) (by rw [c2]; decide) (by rw [c2]; decide) (by decide) ?_
    refine ev_aload_n dX8_count_63 rfl ?_
    refine ev_getR 62 lf_X8_9 dX8_count_64 rfl rfl rfl ?_
    refine ev_iconst (3 : Int32) dX8_count_67 (by decide) ?_
    refine er_ialdk (N := 371) 3 dX8_count_68 rfl rfl rfl ?_
    obtain rfl := Option.some.inj h
    exact ev_iret rfl dX8_count_69 ⟨rfl, rfl, rfl⟩
  replace h := bv_ff c2 h
  by_cases c3 : l1 = (2 : Int32)
  · replace h := bv_tt c3 h
    refine ev_tableIn (67) 70 dX8_count_3 (by rw [c3]; decide) (by rw [c3]; decide) (by rw [c3]; decide) (by decide) ?_
    refine ev_aload_n dX8_count_70 rfl ?_
    refine ev_getR 62 lf_X8_9 dX8_count_71 rfl rfl rfl ?_
    refine ev_iconst (0 : Int32) dX8_count_74 (by decide) ?_
    refine er_ialdk (N := 371) 0 dX8_count_75 rfl rfl rfl ?_
    obtain rfl := Option.some.inj h
    exact ev_iret rfl dX8_count_76 ⟨rfl, rfl, rfl⟩
  replace h := bv_ff c3 h
  by_cases c4 : l1 = (3 : Int32)
  · replace h := bv_tt c4 h
    refine ev_tableIn (74) 77 dX8_count_3 (by rw [c4]; decide) (by rw [c4]; decide) (by rw [c4]; decide) (by decide) ?_
    refine ev_aload_n dX8_count_77 rfl ?_
    obtain ⟨z1, hz1, h⟩ := bv_bd h
    refine er_VP [] (fun _ _ q => q) lk_X8_196 dX8_count_78 rfl rfl rfl rfl rfl (wm_X8_missing  _ _ hz1) ?_
    obtain rfl := Option.some.inj h
    exact ev_iret rfl dX8_count_81 ⟨rfl, rfl, rfl⟩
  replace h := bv_ff c4 h
  by_cases c5 : l1 = (4 : Int32)
  · replace h := bv_tt c5 h
    refine ev_tableIn (79) 82 dX8_count_3 (by rw [c5]; decide) (by rw [c5]; decide) (by rw [c5]; decide) (by decide) ?_
    refine ev_iconst (0 : Int32) dX8_count_82 (by decide) ?_
    refine ev_istore_n dX8_count_83 rfl rfl ?_
    exact ev_weak (by exact And.intro rfl (And.intro rfl (And.intro rfl (trivial)))) (wb_X8_count_84  400 _ _ _ _ h)
  replace h := bv_ff c5 h
  by_cases c6 : l1 = (5 : Int32)
  · replace h := bv_tt c6 h
    refine ev_tableIn (108) 111 dX8_count_3 (by rw [c6]; decide) (by rw [c6]; decide) (by rw [c6]; decide) (by decide) ?_
    refine ev_iconst (0 : Int32) dX8_count_111 (by decide) ?_
    refine ev_istore_n dX8_count_112 rfl rfl ?_
    exact ev_weak (by exact And.intro rfl (And.intro rfl (And.intro rfl (trivial)))) (wb_X8_count_113  400 _ _ _ _ h)
  replace h := bv_ff c6 h
  by_cases c7 : l1 = (6 : Int32)
  · replace h := bv_tt c7 h
    refine ev_tableIn (136) 139 dX8_count_3 (by rw [c7]; decide) (by rw [c7]; decide) (by rw [c7]; decide) (by decide) ?_
    refine ev_aload_n dX8_count_139 rfl ?_
    refine ev_getR 62 lf_X8_9 dX8_count_140 rfl rfl rfl ?_
    refine ev_iconst (4 : Int32) dX8_count_143 (by decide) ?_
    refine er_ialdk (N := 371) 4 dX8_count_144 rfl rfl rfl ?_
    obtain rfl := Option.some.inj h
    exact ev_iret rfl dX8_count_145 ⟨rfl, rfl, rfl⟩
  replace h := bv_ff c7 h
  by_cases c8 : l1 = (7 : Int32)
  · replace h := bv_tt c8 h
    refine ev_tableIn (143) 146 dX8_count_3 (by rw [c8]; decide) (by rw [c8]; decide) (by rw [c8]; decide) (by decide) ?_
    refine ev_aload_n dX8_count_146 rfl ?_
    refine ev_getR 62 lf_X8_9 dX8_count_147 rfl rfl rfl ?_
    refine ev_iconst (5 : Int32) dX8_count_150 (by decide) ?_
    refine er_ialdk (N := 371) 5 dX8_count_151 rfl rfl rfl ?_
    obtain rfl := Option.some.inj h
    exact ev_iret rfl dX8_count_152 ⟨rfl, rfl, rfl⟩
  replace h := bv_ff c8 h
  by_cases c9 : l1 = (8 : Int32)
  · replace h := bv_tt c9 h
    refine ev_tableIn (150) 153 dX8_count_3 (by rw [c9]; decide) (by rw [c9]; decide) (by rw [c9]; decide) (by decide) ?_
    refine ev_aload_n dX8_count_153 rfl ?_
    refine ev_getI lf_X8_220 dX8_count_154 rfl rfl ?_
    obtain rfl := Option.some.inj h
    exact ev_iret rfl dX8_count_157 ⟨rfl, rfl, rfl⟩
  replace h := bv_ff c9 h
  by_cases c10 : l1 = (9 : Int32)
  · replace h := bv_tt c10 h
    refine ev_tableIn (155) 158 dX8_count_3 (by rw [c10]; decide) (by rw [c10]; decide) (by rw [c10]; decide) (by decide) ?_
    refine ev_aload_n dX8_count_158 rfl ?_
    refine ev_getR 62 lf_X8_9 dX8_count_159 rfl rfl rfl ?_
    refine ev_iconst (1 : Int32) dX8_count_162 (by decide) ?_
    refine er_ialdk (N := 371) 1 dX8_count_163 rfl rfl rfl ?_
    obtain rfl := Option.some.inj h
    exact ev_iret rfl dX8_count_164 ⟨rfl, rfl, rfl⟩
  replace h := bv_ff c10 h
  refine ev_tableOut 165 dX8_count_3 (bv_sw 10 (by decide) (fun j hj => by match j, hj with | 0, _ => exact c1 | 1, _ => exact c2 | 2, _ => exact c3 | 3, _ => exact c4 | 4, _ => exact c5 | 5, _ => exact c6 | 6, _ => exact c7 | 7, _ => exact c8 | 8, _ => exact c9 | 9, _ => exact c10 | j + 10, hj => exact absurd hj (by omega))) (by decide) ?_
  refine ev_aload_n dX8_count_165 rfl ?_
  refine ev_ldc (-1000000001 : Int32) dX8_count_166 lc_X8_72 ?_
  obtain ⟨z2, hz2, h⟩ := bv_bd h
  refine er_VI [.int _] (fun _ _ q => q) lk_X8_73 dX8_count_168 rfl rfl rfl rfl rfl (wm_X8_error _ _ _ hz2) ?_
  obtain rfl := Option.some.inj h
  exact ev_iret rfl dX8_count_171 ⟨rfl, rfl, rfl⟩
theorem wm_X8_count   (l1 : Int32) (mi : bv_Mem) (z : Int32 × bv_Mem) (h : f_X8_count  l1 mi = some z) : bv_Met yX8_count MX8_count bv_X0 5 74 74 [.ref 61, .int l1] (bv_mr mi) mi (bv_QI z) :=
  bv_Met.of (pn_X 8 (by decide)) rfl (fun q => absurd q Bool.false_ne_true) (Nat.le_of_ble_eq_true rfl) (we_X8_count   l1 mi z h)
set_option maxRecDepth 100000 in
set_option maxHeartbeats 4000000 in
theorem we_X8_told   (l1 : Int32) (mi : bv_Mem) (z : Int32 × bv_Mem) (h : f_X8_told  l1 mi = some z) : bv_Ev MX8_told bv_X0 1 74 74 (bv_QI z) 0 [some (.ref 61), some (.int l1)] [] 74 (bv_mr mi) mi := by
  unfold f_X8_told at h
  refine ev_iload_n dX8_told_0 rfl ?_
  refine ev_iconst (1 : Int32) dX8_told_1 (by decide) ?_
  refine ev_iconst (5 : Int32) dX8_told_2 (by decide) ?_
  obtain ⟨z1, hz1, h⟩ := bv_bd h
  refine er_SP [.int _, .int _, .int _] (fun _ _ q => q) lk_X8_47 dX8_told_3 rfl rfl rfl rfl (wm_X8_in _ _ _ _ _ hz1) ?_
  refine ev_if_eq 18 dX8_told_6 (by decide) (fun c1 => ?_) (fun c1 => ?_)
  · replace h := bv_tt c1 h
    refine ev_aload_n dX8_told_18 rfl ?_
    refine ev_ldc (-1000000001 : Int32) dX8_told_19 lc_X8_72 ?_
    obtain ⟨z2, hz2, h⟩ := bv_bd h
    refine er_VI [.int _] (fun _ _ q => q) lk_X8_73 dX8_told_21 rfl rfl rfl rfl rfl (wm_X8_error _ _ _ hz2) ?_
    obtain rfl := Option.some.inj h
    exact ev_iret rfl dX8_told_24 ⟨rfl, rfl, rfl⟩
  · replace h := bv_ff c1 h
    refine ev_aload_n dX8_told_9 rfl ?_
    refine ev_getR 65 lf_X8_19 dX8_told_10 rfl rfl rfl ?_
    refine ev_iload_n dX8_told_13 rfl ?_
    obtain ⟨g1, h⟩ := bv_gd h
    refine ev_iald (N := 6) dX8_told_14 rfl g1 ?_
    refine ev_goto 24 dX8_told_15 (by decide) ?_
    obtain rfl := Option.some.inj h
    exact ev_iret rfl dX8_told_24 ⟨rfl, rfl, rfl⟩
theorem wm_X8_told   (l1 : Int32) (mi : bv_Mem) (z : Int32 × bv_Mem) (h : f_X8_told  l1 mi = some z) : bv_Met yX8_told MX8_told bv_X0 1 74 74 [.ref 61, .int l1] (bv_mr mi) mi (bv_QI z) :=
  bv_Met.of (pn_X 8 (by decide)) rfl (fun q => absurd q Bool.false_ne_true) (Nat.le_of_ble_eq_true rfl) (we_X8_told   l1 mi z h)
