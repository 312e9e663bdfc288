set_option maxRecDepth 100000 in
set_option maxHeartbeats 4000000 in
theorem we_X7_isWithin   (l0 : Int32) (l1 : Int32) (l2 : Int32) (mi : bv_Mem) (z : Int32) (h : f_X7_isWithin  l0 l1 l2 mi = some z) : bv_Ev MX7_isWithin bv_X0 0 74 74 (bv_QP z mi) 0 [some (.int l0), some (.int l1), some (.int l2)] [] 74 (bv_mr mi) mi := by
  unfold f_X7_isWithin at h
  refine ev_iload_n dX7_isWithin_0 rfl ?_
  refine ev_iload_n dX7_isWithin_1 rfl ?_
  refine ev_icmp_lt 14 dX7_isWithin_2 (by decide) (fun c1 => ?_) (fun c1 => ?_)
  · replace h := bv_tt c1 h
    refine ev_iconst (0 : Int32) dX7_isWithin_14 (by decide) ?_
    obtain rfl := Option.some.inj h
    exact ev_zret rfl (Or.inl rfl) dX7_isWithin_15 ⟨rfl, rfl, rfl⟩
  · replace h := bv_ff c1 h
    refine ev_iload_n dX7_isWithin_5 rfl ?_
    refine ev_iload_n dX7_isWithin_6 rfl ?_
    refine ev_icmp_gt 14 dX7_isWithin_7 (by decide) (fun c2 => ?_) (fun c2 => ?_)
    · replace h := bv_tt c2 h
      refine ev_iconst (0 : Int32) dX7_isWithin_14 (by decide) ?_
      obtain rfl := Option.some.inj h
      exact ev_zret rfl (Or.inl rfl) dX7_isWithin_15 ⟨rfl, rfl, rfl⟩
    · replace h := bv_ff c2 h
      refine ev_iconst (1 : Int32) dX7_isWithin_10 (by decide) ?_
      refine ev_goto 15 dX7_isWithin_11 (by decide) ?_
      obtain rfl := Option.some.inj h
      exact ev_zret rfl (Or.inr rfl) dX7_isWithin_15 ⟨rfl, rfl, rfl⟩
theorem wm_X7_isWithin   (l0 : Int32) (l1 : Int32) (l2 : Int32) (mi : bv_Mem) (z : Int32) (h : f_X7_isWithin  l0 l1 l2 mi = some z) : bv_Met yX7_isWithin MX7_isWithin bv_X0 0 74 74 [.int l0, .int l1, .int l2] (bv_mr mi) mi (bv_QP z mi) :=
  bv_Met.of (pn_X 7 (by decide)) rfl (fun q => absurd q Bool.false_ne_true) (Nat.le_of_ble_eq_true rfl) (we_X7_isWithin   l0 l1 l2 mi z h)
set_option maxRecDepth 100000 in
set_option maxHeartbeats 4000000 in
theorem we_X7_isPlace   (l0 : Int32) (mi : bv_Mem) (z : Int32) (h : f_X7_isPlace  l0 mi = some z) : bv_Ev MX7_isPlace bv_X0 1 74 74 (bv_QP z mi) 0 [some (.int l0)] [] 74 (bv_mr mi) mi := by
  unfold f_X7_isPlace at h
  refine ev_iload_n dX7_isPlace_0 rfl ?_
  refine ev_iconst (0 : Int32) dX7_isPlace_1 (by decide) ?_
  refine ev_bipush (19 : Int32) dX7_isPlace_2 (by decide) ?_
  obtain ⟨z1, hz1, h⟩ := bv_bd h
  refine er_SP [.int _, .int _, .int _] (fun _ _ q => q) lk_X7_58 dX7_isPlace_4 rfl rfl rfl rfl (wm_X7_isWithin _ _ _ _ _ hz1) ?_
  obtain ⟨g1, h⟩ := bv_gd h
  obtain rfl := Option.some.inj h
  exact ev_zret rfl g1 dX7_isPlace_7 ⟨rfl, rfl, rfl⟩
theorem wm_X7_isPlace   (l0 : Int32) (mi : bv_Mem) (z : Int32) (h : f_X7_isPlace  l0 mi = some z) : bv_Met yX7_isPlace MX7_isPlace bv_X0 1 74 74 [.int l0] (bv_mr mi) mi (bv_QP z mi) :=
  bv_Met.of (pn_X 7 (by decide)) rfl (fun q => absurd q Bool.false_ne_true) (Nat.le_of_ble_eq_true rfl) (we_X7_isPlace   l0 mi z h)
set_option maxRecDepth 100000 in
set_option maxHeartbeats 4000000 in
theorem we_X7_error   (l1 : Int32) (mi : bv_Mem) (z : Int32 × bv_Mem) (h : f_X7_error  l1 mi = some z) : bv_Ev MX7_error bv_X0 0 74 74 (bv_QI z) 0 [some (.ref 0), some (.int l1)] [] 74 (bv_mr mi) mi := by
  unfold f_X7_error at h
  refine ev_aload_n dX7_error_0 rfl ?_
  refine ev_getR 50 lf_X7_43 dX7_error_1 rfl rfl rfl ?_
  refine ev_iload_n dX7_error_4 rfl ?_
  refine ev_dup2 dX7_error_5 rfl rfl ?_
  obtain ⟨g1, h⟩ := bv_gd h
  refine ev_iald (N := 6) dX7_error_6 rfl g1 ?_
  refine ev_iconst (1 : Int32) dX7_error_7 (by decide) ?_
  refine ev_iadd dX7_error_8 ?_
  refine er_iast (N := 6) dX7_error_9 rfl g1 ?_
  refine ev_ldcw (-1000000000 : Int32) dX7_error_10 lc_X7_299 ?_
  refine ev_iload_n dX7_error_13 rfl ?_
  refine ev_isub dX7_error_14 ?_
  obtain rfl := Option.some.inj h
  exact ev_iret rfl dX7_error_15 ⟨rfl, rfl, rfl⟩
theorem wm_X7_error   (l1 : Int32) (mi : bv_Mem) (z : Int32 × bv_Mem) (h : f_X7_error  l1 mi = some z) : bv_Met yX7_error MX7_error bv_X0 0 74 74 [.ref 0, .int l1] (bv_mr mi) mi (bv_QI z) :=
  bv_Met.of (pn_X 7 (by decide)) rfl (fun q => absurd q Bool.false_ne_true) (Nat.le_of_ble_eq_true rfl) (we_X7_error   l1 mi z h)
set_option maxRecDepth 100000 in
set_option maxHeartbeats 4000000 in
theorem wb_X7_land_72  (l1 : Int32) (l3 : Int32) (s0 : Nat) (mi : bv_Mem) (z : Int32 × bv_Mem) (h : b_X7_land_72 l1 l3 s0 mi = some z) : bv_Ev MX7_land bv_X0 2 74 74 (bv_QI z) 72 [none, some (.int l1), none, some (.int l3), none, none, none] [.ref s0] 74 (bv_mr mi) mi := by
  unfold b_X7_land_72 at h
  refine ev_astore dX7_land_72 rfl rfl ?_
  refine ev_aload dX7_land_74 rfl ?_
  refine ev_iload_n dX7_land_76 rfl ?_
  obtain ⟨g1, h⟩ := bv_gd h
  obtain ⟨g2, h⟩ := bv_gd h
  refine ev_iald (N := (bv_len s0)) dX7_land_77 g1 g2 ?_
  refine ev_istore dX7_land_78 rfl rfl ?_
  refine ev_aload dX7_land_80 rfl ?_
  refine ev_iload_n dX7_land_82 rfl ?_
  refine ev_iload_n dX7_land_83 rfl ?_
  refine er_iast (N := (bv_len s0)) dX7_land_84 g1 g2 ?_
  refine ev_iload dX7_land_85 rfl ?_
  obtain rfl := Option.some.inj h
  exact ev_iret rfl dX7_land_87 ⟨rfl, rfl, rfl⟩
set_option maxRecDepth 100000 in
set_option maxHeartbeats 4000000 in
theorem wb_X7_land_11  (l1 : Int32) (l2 : Int32) (l3 : Int32) (s0 : Int32) (mi : bv_Mem) (z : Int32 × bv_Mem) (h : b_X7_land_11 l1 l2 l3 s0 mi = some z) : bv_Ev MX7_land bv_X0 2 74 74 (bv_QI z) 11 [some (.ref 0), some (.int l1), some (.int l2), some (.int l3), none, none, none] [.int s0] 74 (bv_mr mi) mi := by
  unfold b_X7_land_11 at h
  refine ev_istore dX7_land_11 rfl rfl ?_
  refine ev_iload_n dX7_land_13 rfl ?_
  obtain ⟨z1, hz1, h⟩ := bv_bd h
  refine er_SP [.int _] (fun _ _ q => q) lk_X7_54 dX7_land_14 rfl rfl rfl rfl (wm_X7_isPlace _ _ _ hz1) ?_
  refine ev_if_eq 39 dX7_land_17 (by decide) (fun c1 => ?_) (fun c1 => ?_)
  · replace h := bv_tt c1 h
    refine ev_aload_n dX7_land_39 rfl ?_
    refine ev_iconst (1 : Int32) dX7_land_40 (by decide) ?_
    obtain ⟨z2, hz2, h⟩ := bv_bd h
    refine er_VI [.int _] (fun _ _ q => q) lk_X7_62 dX7_land_41 rfl rfl rfl rfl rfl (wm_X7_error _ _ _ hz2) ?_
    obtain rfl := Option.some.inj h
    exact ev_iret rfl dX7_land_44 ⟨rfl, rfl, rfl⟩
  · replace h := bv_ff c1 h
    refine ev_iload_n dX7_land_20 rfl ?_
    refine ev_iconst (0 : Int32) dX7_land_21 (by decide) ?_
    refine ev_iconst (1 : Int32) dX7_land_22 (by decide) ?_
    obtain ⟨z3, hz3, h⟩ := bv_bd h
    refine er_SP [.int _, .int _, .int _] (fun _ _ q => q) lk_X7_58 dX7_land_23 rfl rfl rfl rfl (wm_X7_isWithin _ _ _ _ _ hz3) ?_
    refine ev_if_eq 39 dX7_land_26 (by decide) (fun c2 => ?_) (fun c2 => ?_)
    · replace h := bv_tt c2 h
      refine ev_aload_n dX7_land_39 rfl ?_
      refine ev_iconst (1 : Int32) dX7_land_40 (by decide) ?_
      obtain ⟨z4, hz4, h⟩ := bv_bd h
      refine er_VI [.int _] (fun _ _ q => q) lk_X7_62 dX7_land_41 rfl rfl rfl rfl rfl (wm_X7_error _ _ _ hz4) ?_
      obtain rfl := Option.some.inj h
      exact ev_iret rfl dX7_land_44 ⟨rfl, rfl, rfl⟩
    · replace h := bv_ff c2 h
      refine ev_iload_n dX7_land_29 rfl ?_
      refine ev_iconst (0 : Int32) dX7_land_30 (by decide) ?_
      refine ev_iload dX7_land_31 rfl ?_
      obtain ⟨z5, hz5, h⟩ := bv_bd h
      refine er_SP [.int _, .int _, .int _] (fun _ _ q => q) lk_X7_58 dX7_land_33 rfl rfl rfl rfl (wm_X7_isWithin _ _ _ _ _ hz5) ?_
      refine ev_if_ne 45 dX7_land_36 (by decide) (fun c3 => ?_) (fun c3 => ?_)
      · replace h := bv_ff c3 h
        refine ev_iload_n dX7_land_45 rfl ?_
        refine ev_if_ne 62 dX7_land_46 (by decide) (fun c4 => ?_) (fun c4 => ?_)
        · replace h := bv_ff c4 h
          refine ev_aload_n dX7_land_62 rfl ?_
          refine ev_getR 1 lf_X7_10 dX7_land_63 rfl rfl rfl ?_
          refine ev_getR 2 lf_X7_66 dX7_land_66 rfl rfl rfl ?_
          refine ev_getR 4 lf_X7_75 dX7_land_69 rfl rfl rfl ?_
          exact ev_weak (by exact And.intro rfl (And.intro rfl (trivial))) (wb_X7_land_72  _ _ _ _ _ h)
        · replace h := bv_tt c4 h
          refine ev_aload_n dX7_land_49 rfl ?_
          refine ev_getR 1 lf_X7_10 dX7_land_50 rfl rfl rfl ?_
          refine ev_getR 2 lf_X7_66 dX7_land_53 rfl rfl rfl ?_
          refine ev_getR 3 lf_X7_70 dX7_land_56 rfl rfl rfl ?_
          refine ev_goto 72 dX7_land_59 (by decide) ?_
          exact ev_weak (by exact And.intro rfl (And.intro rfl (trivial))) (wb_X7_land_72  _ _ _ _ _ h)
      · replace h := bv_tt c3 h
        refine ev_aload_n dX7_land_39 rfl ?_
        refine ev_iconst (1 : Int32) dX7_land_40 (by decide) ?_
        obtain ⟨z6, hz6, h⟩ := bv_bd h
        refine er_VI [.int _] (fun _ _ q => q) lk_X7_62 dX7_land_41 rfl rfl rfl rfl rfl (wm_X7_error _ _ _ hz6) ?_
        obtain rfl := Option.some.inj h
        exact ev_iret rfl dX7_land_44 ⟨rfl, rfl, rfl⟩
set_option maxRecDepth 100000 in
set_option maxHeartbeats 4000000 in
theorem we_X7_land   (l1 : Int32) (l2 : Int32) (l3 : Int32) (mi : bv_Mem) (z : Int32 × bv_Mem) (h : f_X7_land  l1 l2 l3 mi = some z) : bv_Ev MX7_land bv_X0 2 74 74 (bv_QI z) 0 [some (.ref 0), some (.int l1), some (.int l2), some (.int l3), none, none, none] [] 74 (bv_mr mi) mi := by
  unfold f_X7_land at h
  refine ev_iload_n dX7_land_0 rfl ?_
  refine ev_if_ne 9 dX7_land_1 (by decide) (fun c1 => ?_) (fun c1 => ?_)
  · replace h := bv_ff c1 h
    refine ev_bipush (99 : Int32) dX7_land_9 (by decide) ?_
    exact ev_weak (by exact And.intro rfl (And.intro rfl (And.intro rfl (And.intro rfl (trivial))))) (wb_X7_land_11  _ _ _ _ _ _ h)
  · replace h := bv_tt c1 h
    refine ev_bipush (20 : Int32) dX7_land_4 (by decide) ?_
    refine ev_goto 11 dX7_land_6 (by decide) ?_
    exact ev_weak (by exact And.intro rfl (And.intro rfl (And.intro rfl (And.intro rfl (trivial))))) (wb_X7_land_11  _ _ _ _ _ _ h)
theorem wm_X7_land   (l1 : Int32) (l2 : Int32) (l3 : Int32) (mi : bv_Mem) (z : Int32 × bv_Mem) (h : f_X7_land  l1 l2 l3 mi = some z) : bv_Met yX7_land MX7_land bv_X0 2 74 74 [.ref 0, .int l1, .int l2, .int l3] (bv_mr mi) mi (bv_QI z) :=
  bv_Met.of (pn_X 7 (by decide)) rfl (fun q => absurd q Bool.false_ne_true) (Nat.le_of_ble_eq_true rfl) (we_X7_land   l1 l2 l3 mi z h)
set_option maxRecDepth 100000 in
set_option maxHeartbeats 4000000 in
theorem wb_X1_goneBehind_4 (mi : bv_Mem) : ∀ (fu : Nat) (l1 : Int32) (l2 : Int32) (l3 : Int32) (z : Int32), b_X1_goneBehind_4 mi fu l1 l2 l3 = some z → bv_Ev MX1_goneBehind bv_X0 0 74 74 (bv_QP z mi) 4 [some (.ref 2), some (.int l1), some (.int l2), some (.int l3)] [] 74 (bv_mr mi) mi := by
  intro fu
  induction fu with
  | zero =>
    intro l1 l2 l3 z h
    rw [b_X1_goneBehind_4] at h
    cases h
  | succ fu ih =>
    intro l1 l2 l3 z h
    rw [b_X1_goneBehind_4] at h
    refine ev_iload_n dX1_goneBehind_4 rfl ?_
    refine ev_bipush (20 : Int32) dX1_goneBehind_5 (by decide) ?_
    refine ev_icmp_ge 32 dX1_goneBehind_7 (by decide) (fun c1 => ?_) (fun c1 => ?_)
    · replace h := bv_tt c1 h
      refine ev_iload_n dX1_goneBehind_32 rfl ?_
      obtain rfl := Option.some.inj h
      exact ev_iret rfl dX1_goneBehind_33 ⟨rfl, rfl, rfl⟩
    · replace h := bv_ff c1 h
      refine ev_aload_n dX1_goneBehind_10 rfl ?_
      refine ev_getR 4 lf_X1_15 dX1_goneBehind_11 rfl rfl rfl ?_
      refine ev_iload_n dX1_goneBehind_14 rfl ?_
      obtain ⟨g1, h⟩ := bv_gd h
      refine ev_iald (N := 20) dX1_goneBehind_15 rfl g1 ?_
      refine ev_iload_n dX1_goneBehind_16 rfl ?_
      refine ev_icmp_le 26 dX1_goneBehind_17 (by decide) (fun c2 => ?_) (fun c2 => ?_)
      · replace h := bv_tt c2 h
        refine ev_iinc (l3 + 1) dX1_goneBehind_26 rfl rfl rfl rfl ?_
        refine ev_goto 4 dX1_goneBehind_29 (by decide) ?_
        exact ev_weak (by exact And.intro rfl (And.intro rfl (And.intro rfl (And.intro rfl (trivial))))) (ih _ _ _ _ h)
      · replace h := bv_ff c2 h
        refine ev_iload_n dX1_goneBehind_20 rfl ?_
        refine ev_iconst (1 : Int32) dX1_goneBehind_21 (by decide) ?_
        refine ev_iload_n dX1_goneBehind_22 rfl ?_
        refine ev_ishl dX1_goneBehind_23 ?_
        refine ev_ior dX1_goneBehind_24 ?_
        refine ev_istore_n dX1_goneBehind_25 rfl rfl ?_
        refine ev_iinc (l3 + 1) dX1_goneBehind_26 rfl rfl rfl rfl ?_
        refine ev_goto 4 dX1_goneBehind_29 (by decide) ?_
        exact ev_weak (by exact And.intro rfl (And.intro rfl (And.intro rfl (And.intro rfl (trivial))))) (ih _ _ _ _ h)
set_option maxRecDepth 100000 in
set_option maxHeartbeats 4000000 in
theorem we_X1_goneBehind   (l1 : Int32) (mi : bv_Mem) (z : Int32) (h : f_X1_goneBehind  l1 mi = some z) : bv_Ev MX1_goneBehind bv_X0 0 74 74 (bv_QP z mi) 0 [some (.ref 2), some (.int l1), none, none] [] 74 (bv_mr mi) mi := by
  unfold f_X1_goneBehind at h
  refine ev_iconst (0 : Int32) dX1_goneBehind_0 (by decide) ?_
  refine ev_istore_n dX1_goneBehind_1 rfl rfl ?_
  refine ev_iconst (0 : Int32) dX1_goneBehind_2 (by decide) ?_
  refine ev_istore_n dX1_goneBehind_3 rfl rfl ?_
  exact ev_weak (by exact And.intro rfl (And.intro rfl (And.intro rfl (And.intro rfl (trivial))))) (wb_X1_goneBehind_4 mi 400 _ _ _ _ h)
theorem wm_X1_goneBehind   (l1 : Int32) (mi : bv_Mem) (z : Int32) (h : f_X1_goneBehind  l1 mi = some z) : bv_Met yX1_goneBehind MX1_goneBehind bv_X0 0 74 74 [.ref 2, .int l1] (bv_mr mi) mi (bv_QP z mi) :=
  bv_Met.of (pn_X 1 (by decide)) rfl (fun q => absurd q Bool.false_ne_true) (Nat.le_of_ble_eq_true rfl) (we_X1_goneBehind   l1 mi z h)
set_option maxRecDepth 100000 in
set_option maxHeartbeats 4000000 in
theorem wb_X1_sees_91 (mi : bv_Mem) (k_60 : Int32 → Int32 → Int32 → Int32 → Int32 → Int32 → Int32 → Option (Int32)) (hk_60 : ∀ (l1 : Int32) (l4 : Int32) (l5 : Int32) (l6 : Int32) (l7 : Int32) (l8 : Int32) (l9 : Int32) (z : Int32), k_60 l1 l4 l5 l6 l7 l8 l9 = some z → bv_Ev MX1_sees bv_X0 1 74 74 (bv_QP z mi) 60 [some (.ref 2), some (.int l1), none, none, some (.int l4), some (.int l5), some (.int l6), some (.int l7), some (.int l8), some (.int l9), none, none] [] 74 (bv_mr mi) mi) (l1 : Int32) (l4 : Int32) (l5 : Int32) (l6 : Int32) (l7 : Int32) (l8 : Int32) (l9 : Int32) (l10 : Int32) (s0 : Int32) (z : Int32) (h : b_X1_sees_91 mi k_60 l1 l4 l5 l6 l7 l8 l9 l10 s0 = some z) : bv_Ev MX1_sees bv_X0 1 74 74 (bv_QP z mi) 91 [some (.ref 2), some (.int l1), none, none, some (.int l4), some (.int l5), some (.int l6), some (.int l7), some (.int l8), some (.int l9), some (.int l10), none] [.int s0] 74 (bv_mr mi) mi := by
  unfold b_X1_sees_91 at h
  refine ev_istore dX1_sees_91 rfl rfl ?_
  refine ev_iload dX1_sees_93 rfl ?_
  refine ev_if_eq 121 dX1_sees_95 (by decide) (fun c1 => ?_) (fun c1 => ?_)
  · replace h := bv_tt c1 h
    refine ev_iinc (l9 + 1) dX1_sees_121 rfl rfl rfl rfl ?_
    refine ev_goto 60 dX1_sees_124 (by decide) ?_
    exact ev_weak (by exact And.intro rfl (And.intro rfl (And.intro rfl (And.intro rfl (And.intro rfl (And.intro rfl (And.intro rfl (And.intro rfl (trivial))))))))) (hk_60 _ _ _ _ _ _ _ _ h)
  · replace h := bv_ff c1 h
    refine ev_aload_n dX1_sees_98 rfl ?_
    refine ev_getR 3 lf_X1_9 dX1_sees_99 rfl rfl rfl ?_
    refine ev_iload dX1_sees_102 rfl ?_
    obtain ⟨g1, h⟩ := bv_gd h
    refine ev_iald (N := 20) dX1_sees_104 rfl g1 ?_
    refine ev_iload dX1_sees_105 rfl ?_
    refine ev_isub dX1_sees_107 ?_
    refine ev_iload dX1_sees_108 rfl ?_
    refine ev_imul dX1_sees_110 ?_
    refine ev_iload dX1_sees_111 rfl ?_
    refine ev_iload dX1_sees_113 rfl ?_
    refine ev_imul dX1_sees_115 ?_
    refine ev_icmp_lt 121 dX1_sees_116 (by decide) (fun c2 => ?_) (fun c2 => ?_)
    · replace h := bv_tt c2 h
      refine ev_iinc (l9 + 1) dX1_sees_121 rfl rfl rfl rfl ?_
      refine ev_goto 60 dX1_sees_124 (by decide) ?_
      exact ev_weak (by exact And.intro rfl (And.intro rfl (And.intro rfl (And.intro rfl (And.intro rfl (And.intro rfl (And.intro rfl (And.intro rfl (trivial))))))))) (hk_60 _ _ _ _ _ _ _ _ h)
    · replace h := bv_ff c2 h
      refine ev_iconst (0 : Int32) dX1_sees_119 (by decide) ?_
      obtain rfl := Option.some.inj h
      exact ev_zret rfl (Or.inl rfl) dX1_sees_120 ⟨rfl, rfl, rfl⟩
set_option maxRecDepth 100000 in
set_option maxHeartbeats 4000000 in
theorem wb_X1_sees_60 (mi : bv_Mem) : ∀ (fu : Nat) (l1 : Int32) (l4 : Int32) (l5 : Int32) (l6 : Int32) (l7 : Int32) (l8 : Int32) (l9 : Int32) (z : Int32), b_X1_sees_60 mi fu l1 l4 l5 l6 l7 l8 l9 = some z → bv_Ev MX1_sees bv_X0 1 74 74 (bv_QP z mi) 60 [some (.ref 2), some (.int l1), none, none, some (.int l4), some (.int l5), some (.int l6), some (.int l7), some (.int l8), some (.int l9), none, none] [] 74 (bv_mr mi) mi := by
  intro fu
  induction fu with
  | zero =>
    intro l1 l4 l5 l6 l7 l8 l9 z h
    rw [b_X1_sees_60] at h
    cases h
  | succ fu ih =>
    intro l1 l4 l5 l6 l7 l8 l9 z h
    rw [b_X1_sees_60] at h
    refine ev_iload dX1_sees_60 rfl ?_
    refine ev_iload dX1_sees_62 rfl ?_
    refine ev_icmp_ge 127 dX1_sees_64 (by decide) (fun c1 => ?_) (fun c1 => ?_)
    · replace h := bv_tt c1 h
      refine ev_iconst (1 : Int32) dX1_sees_127 (by decide) ?_
      obtain rfl := Option.some.inj h
      exact ev_zret rfl (Or.inr rfl) dX1_sees_128 ⟨rfl, rfl, rfl⟩
    · replace h := bv_ff c1 h
      refine ev_iload_n dX1_sees_67 rfl ?_
      refine ev_iload dX1_sees_68 rfl ?_
      refine ev_iload dX1_sees_70 rfl ?_
      refine ev_imul dX1_sees_72 ?_
      refine ev_iadd dX1_sees_73 ?_
      refine ev_istore dX1_sees_74 rfl rfl ?_
      refine ev_iload dX1_sees_76 rfl ?_
      refine ev_iload dX1_sees_78 rfl ?_
      refine ev_ishr dX1_sees_80 ?_
      refine ev_iconst (1 : Int32) dX1_sees_81 (by decide) ?_
      refine ev_iand dX1_sees_82 ?_
      refine ev_if_ne 90 dX1_sees_83 (by decide) (fun c2 => ?_) (fun c2 => ?_)
      · replace h := bv_ff c2 h
        refine ev_iconst (0 : Int32) dX1_sees_90 (by decide) ?_
        exact ev_weak (by exact And.intro rfl (And.intro rfl (And.intro rfl (And.intro rfl (And.intro rfl (And.intro rfl (And.intro rfl (And.intro rfl (And.intro rfl (trivial)))))))))) (wb_X1_sees_91 mi (b_X1_sees_60 mi fu) ih _ _ _ _ _ _ _ _ _ _ h)
      · replace h := bv_tt c2 h
        refine ev_iconst (1 : Int32) dX1_sees_86 (by decide) ?_
        refine ev_goto 91 dX1_sees_87 (by decide) ?_
        exact ev_weak (by exact And.intro rfl (And.intro rfl (And.intro rfl (And.intro rfl (And.intro rfl (And.intro rfl (And.intro rfl (And.intro rfl (And.intro rfl (trivial)))))))))) (wb_X1_sees_91 mi (b_X1_sees_60 mi fu) ih _ _ _ _ _ _ _ _ _ _ h)
set_option maxRecDepth 100000 in
set_option maxHeartbeats 4000000 in
theorem wb_X1_sees_26 (mi : bv_Mem) (l1 : Int32) (l2 : Int32) (l3 : Int32) (l4 : Int32) (s0 : Int32) (z : Int32) (h : b_X1_sees_26 mi l1 l2 l3 l4 s0 = some z) : bv_Ev MX1_sees bv_X0 1 74 74 (bv_QP z mi) 26 [some (.ref 2), some (.int l1), some (.int l2), some (.int l3), some (.int l4), none, none, none, none, none, none, none] [.int s0] 74 (bv_mr mi) mi := by
  unfold b_X1_sees_26 at h
  refine ev_istore dX1_sees_26 rfl rfl ?_
  refine ev_iload_n dX1_sees_28 rfl ?_
  refine ev_iload_n dX1_sees_29 rfl ?_
  refine ev_isub dX1_sees_30 ?_
  refine er_abs dX1_sees_31 lm_X1_18 rfl rfl ?_
  refine ev_istore dX1_sees_34 rfl rfl ?_
  refine ev_aload_n dX1_sees_36 rfl ?_
  refine ev_getR 3 lf_X1_9 dX1_sees_37 rfl rfl rfl ?_
  refine ev_iload_n dX1_sees_40 rfl ?_
  obtain ⟨g1, h⟩ := bv_gd h
  refine ev_iald (N := 20) dX1_sees_41 rfl g1 ?_
  refine ev_iload_n dX1_sees_42 rfl ?_
  refine ev_iadd dX1_sees_43 ?_
  refine ev_istore dX1_sees_44 rfl rfl ?_
  refine ev_aload_n dX1_sees_46 rfl ?_
  refine ev_getR 3 lf_X1_9 dX1_sees_47 rfl rfl rfl ?_
  refine ev_iload_n dX1_sees_50 rfl ?_
  obtain ⟨g2, h⟩ := bv_gd h
  refine ev_iald (N := 20) dX1_sees_51 rfl g2 ?_
  refine ev_iload dX1_sees_52 rfl ?_
  refine ev_isub dX1_sees_54 ?_
  refine ev_istore dX1_sees_55 rfl rfl ?_
  refine ev_iconst (1 : Int32) dX1_sees_57 (by decide) ?_
  refine ev_istore dX1_sees_58 rfl rfl ?_
  exact ev_weak (by exact And.intro rfl (And.intro rfl (And.intro rfl (And.intro rfl (And.intro rfl (And.intro rfl (And.intro rfl (And.intro rfl (trivial))))))))) (wb_X1_sees_60 mi 400 _ _ _ _ _ _ _ _ h)
set_option maxRecDepth 100000 in
set_option maxHeartbeats 4000000 in
theorem we_X1_sees   (l1 : Int32) (l2 : Int32) (l3 : Int32) (l4 : Int32) (mi : bv_Mem) (z : Int32) (h : f_X1_sees  l1 l2 l3 l4 mi = some z) : bv_Ev MX1_sees bv_X0 1 74 74 (bv_QP z mi) 0 [some (.ref 2), some (.int l1), some (.int l2), some (.int l3), some (.int l4), none, none, none, none, none, none, none] [] 74 (bv_mr mi) mi := by
  unfold f_X1_sees at h
  refine ev_iload_n dX1_sees_0 rfl ?_
  refine ev_iload_n dX1_sees_1 rfl ?_
  refine ev_icmp_eq 14 dX1_sees_2 (by decide) (fun c1 => ?_) (fun c1 => ?_)
  · replace h := bv_tt c1 h
    refine ev_iconst (0 : Int32) dX1_sees_14 (by decide) ?_
    obtain rfl := Option.some.inj h
    exact ev_zret rfl (Or.inl rfl) dX1_sees_15 ⟨rfl, rfl, rfl⟩
  · replace h := bv_ff c1 h
    refine ev_iload dX1_sees_5 rfl ?_
    refine ev_iload_n dX1_sees_7 rfl ?_
    refine ev_ishr dX1_sees_8 ?_
    refine ev_iconst (1 : Int32) dX1_sees_9 (by decide) ?_
    refine ev_iand dX1_sees_10 ?_
    refine ev_if_eq 16 dX1_sees_11 (by decide) (fun c2 => ?_) (fun c2 => ?_)
    · replace h := bv_tt c2 h
      refine ev_iload_n dX1_sees_16 rfl ?_
      refine ev_iload_n dX1_sees_17 rfl ?_
      refine ev_icmp_le 25 dX1_sees_18 (by decide) (fun c3 => ?_) (fun c3 => ?_)
      · replace h := bv_tt c3 h
        refine ev_iconst (-1 : Int32) dX1_sees_25 (by decide) ?_
        exact ev_weak (by exact And.intro rfl (And.intro rfl (And.intro rfl (And.intro rfl (And.intro rfl (trivial)))))) (wb_X1_sees_26 mi _ _ _ _ _ _ h)
      · replace h := bv_ff c3 h
        refine ev_iconst (1 : Int32) dX1_sees_21 (by decide) ?_
        refine ev_goto 26 dX1_sees_22 (by decide) ?_
        exact ev_weak (by exact And.intro rfl (And.intro rfl (And.intro rfl (And.intro rfl (And.intro rfl (trivial)))))) (wb_X1_sees_26 mi _ _ _ _ _ _ h)
    · replace h := bv_ff c2 h
      refine ev_iconst (0 : Int32) dX1_sees_14 (by decide) ?_
      obtain rfl := Option.some.inj h
      exact ev_zret rfl (Or.inl rfl) dX1_sees_15 ⟨rfl, rfl, rfl⟩
theorem wm_X1_sees   (l1 : Int32) (l2 : Int32) (l3 : Int32) (l4 : Int32) (mi : bv_Mem) (z : Int32) (h : f_X1_sees  l1 l2 l3 l4 mi = some z) : bv_Met yX1_sees MX1_sees bv_X0 1 74 74 [.ref 2, .int l1, .int l2, .int l3, .int l4] (bv_mr mi) mi (bv_QP z mi) :=
  bv_Met.of (pn_X 1 (by decide)) rfl (fun q => absurd q Bool.false_ne_true) (Nat.le_of_ble_eq_true rfl) (we_X1_sees   l1 l2 l3 l4 mi z h)
set_option maxRecDepth 100000 in
set_option maxHeartbeats 4000000 in
theorem wb_X1_seenFrom_32 (mi : bv_Mem) : ∀ (fu : Nat) (l1 : Int32) (l3 : Int32) (l5 : Int32) (l6 : Int32) (l7 : Int32) (z : Int32), b_X1_seenFrom_32 mi fu l1 l3 l5 l6 l7 = some z → bv_Ev MX1_seenFrom bv_X0 2 74 74 (bv_QP z mi) 32 [some (.ref 2), some (.int l1), none, some (.int l3), none, some (.int l5), some (.int l6), some (.int l7)] [] 74 (bv_mr mi) mi := by
  intro fu
  induction fu with
  | zero =>
    intro l1 l3 l5 l6 l7 z h
    rw [b_X1_seenFrom_32] at h
    cases h
  | succ fu ih =>
    intro l1 l3 l5 l6 l7 z h
    rw [b_X1_seenFrom_32] at h
    refine ev_iload dX1_seenFrom_32 rfl ?_
    refine ev_iload dX1_seenFrom_34 rfl ?_
    refine ev_icmp_ge 66 dX1_seenFrom_36 (by decide) (fun c1 => ?_) (fun c1 => ?_)
    · replace h := bv_tt c1 h
      refine ev_iload dX1_seenFrom_66 rfl ?_
      obtain rfl := Option.some.inj h
      exact ev_iret rfl dX1_seenFrom_68 ⟨rfl, rfl, rfl⟩
    · replace h := bv_ff c1 h
      refine ev_aload_n dX1_seenFrom_39 rfl ?_
      refine ev_iload_n dX1_seenFrom_40 rfl ?_
      refine ev_iload dX1_seenFrom_41 rfl ?_
      refine ev_iconst (0 : Int32) dX1_seenFrom_43 (by decide) ?_
      refine ev_iload_n dX1_seenFrom_44 rfl ?_
      obtain ⟨z1, hz1, h⟩ := bv_bd h
      refine er_VP [.int _, .int _, .int _, .int _] (fun _ _ q => q) lk_X1_24 dX1_seenFrom_45 rfl rfl rfl rfl rfl (wm_X1_sees _ _ _ _ _ _ hz1) ?_
      refine ev_if_eq 60 dX1_seenFrom_48 (by decide) (fun c2 => ?_) (fun c2 => ?_)
      · replace h := bv_tt c2 h
        refine ev_iinc (l7 + 1) dX1_seenFrom_60 rfl rfl rfl rfl ?_
        refine ev_goto 32 dX1_seenFrom_63 (by decide) ?_
        exact ev_weak (by exact And.intro rfl (And.intro rfl (And.intro rfl (And.intro rfl (And.intro rfl (And.intro rfl (trivial))))))) (ih _ _ _ _ _ _ h)
      · replace h := bv_ff c2 h
        refine ev_iload dX1_seenFrom_51 rfl ?_
        refine ev_iconst (1 : Int32) dX1_seenFrom_53 (by decide) ?_
        refine ev_iload dX1_seenFrom_54 rfl ?_
        refine ev_ishl dX1_seenFrom_56 ?_
        refine ev_ior dX1_seenFrom_57 ?_
        refine ev_istore dX1_seenFrom_58 rfl rfl ?_
        refine ev_iinc (l7 + 1) dX1_seenFrom_60 rfl rfl rfl rfl ?_
        refine ev_goto 32 dX1_seenFrom_63 (by decide) ?_
        exact ev_weak (by exact And.intro rfl (And.intro rfl (And.intro rfl (And.intro rfl (And.intro rfl (And.intro rfl (trivial))))))) (ih _ _ _ _ _ _ h)
set_option maxRecDepth 100000 in
set_option maxHeartbeats 4000000 in
theorem wb_X1_seenFrom_11 (mi : bv_Mem) (l1 : Int32) (l2 : Int32) (l3 : Int32) (s0 : Int32) (z : Int32) (h : b_X1_seenFrom_11 mi l1 l2 l3 s0 = some z) : bv_Ev MX1_seenFrom bv_X0 2 74 74 (bv_QP z mi) 11 [some (.ref 2), some (.int l1), some (.int l2), some (.int l3), none, none, none, none] [.int s0] 74 (bv_mr mi) mi := by
  unfold b_X1_seenFrom_11 at h
  refine ev_istore dX1_seenFrom_11 rfl rfl ?_
  refine ev_iload_n dX1_seenFrom_13 rfl ?_
  refine ev_if_ne 21 dX1_seenFrom_14 (by decide) (fun c1 => ?_) (fun c1 => ?_)
  · replace h := bv_ff c1 h
    refine ev_bipush (20 : Int32) dX1_seenFrom_21 (by decide) ?_
    refine ev_istore dX1_seenFrom_23 rfl rfl ?_
    refine ev_iconst (0 : Int32) dX1_seenFrom_25 (by decide) ?_
    refine ev_istore dX1_seenFrom_26 rfl rfl ?_
    refine ev_iload dX1_seenFrom_28 rfl ?_
    refine ev_istore dX1_seenFrom_30 rfl rfl ?_
    exact ev_weak (by exact And.intro rfl (And.intro rfl (And.intro rfl (And.intro rfl (And.intro rfl (And.intro rfl (trivial))))))) (wb_X1_seenFrom_32 mi 400 _ _ _ _ _ _ h)
  · replace h := bv_tt c1 h
    refine ev_iload_n dX1_seenFrom_17 rfl ?_
    refine ev_goto 23 dX1_seenFrom_18 (by decide) ?_
    refine ev_istore dX1_seenFrom_23 rfl rfl ?_
    refine ev_iconst (0 : Int32) dX1_seenFrom_25 (by decide) ?_
    refine ev_istore dX1_seenFrom_26 rfl rfl ?_
    refine ev_iload dX1_seenFrom_28 rfl ?_
    refine ev_istore dX1_seenFrom_30 rfl rfl ?_
    exact ev_weak (by exact And.intro rfl (And.intro rfl (And.intro rfl (And.intro rfl (And.intro rfl (And.intro rfl (trivial))))))) (wb_X1_seenFrom_32 mi 400 _ _ _ _ _ _ h)
set_option maxRecDepth 100000 in
set_option maxHeartbeats 4000000 in
theorem we_X1_seenFrom   (l1 : Int32) (l2 : Int32) (l3 : Int32) (mi : bv_Mem) (z : Int32) (h : f_X1_seenFrom  l1 l2 l3 mi = some z) : bv_Ev MX1_seenFrom bv_X0 2 74 74 (bv_QP z mi) 0 [some (.ref 2), some (.int l1), some (.int l2), some (.int l3), none, none, none, none] [] 74 (bv_mr mi) mi := by
  unfold f_X1_seenFrom at h
  refine ev_iload_n dX1_seenFrom_0 rfl ?_
  refine ev_if_ne 8 dX1_seenFrom_1 (by decide) (fun c1 => ?_) (fun c1 => ?_)
  · replace h := bv_ff c1 h
    refine ev_iload_n dX1_seenFrom_8 rfl ?_
    refine ev_iconst (1 : Int32) dX1_seenFrom_9 (by decide) ?_
    refine ev_iadd dX1_seenFrom_10 ?_
    exact ev_weak (by exact And.intro rfl (And.intro rfl (And.intro rfl (And.intro rfl (trivial))))) (wb_X1_seenFrom_11 mi _ _ _ _ _ h)
  · replace h := bv_tt c1 h
    refine ev_iconst (0 : Int32) dX1_seenFrom_4 (by decide) ?_
    refine ev_goto 11 dX1_seenFrom_5 (by decide) ?_
    exact ev_weak (by exact And.intro rfl (And.intro rfl (And.intro rfl (And.intro rfl (trivial))))) (wb_X1_seenFrom_11 mi _ _ _ _ _ h)
theorem wm_X1_seenFrom   (l1 : Int32) (l2 : Int32) (l3 : Int32) (mi : bv_Mem) (z : Int32) (h : f_X1_seenFrom  l1 l2 l3 mi = some z) : bv_Met yX1_seenFrom MX1_seenFrom bv_X0 2 74 74 [.ref 2, .int l1, .int l2, .int l3] (bv_mr mi) mi (bv_QP z mi) :=
  bv_Met.of (pn_X 1 (by decide)) rfl (fun q => absurd q Bool.false_ne_true) (Nat.le_of_ble_eq_true rfl) (we_X1_seenFrom   l1 l2 l3 mi z h)
set_option maxRecDepth 100000 in
set_option maxHeartbeats 4000000 in
theorem we_X1_seenAround   (l1 : Int32) (l2 : Int32) (mi : bv_Mem) (z : Int32) (h : f_X1_seenAround  l1 l2 mi = some z) : bv_Ev MX1_seenAround bv_X0 3 74 74 (bv_QP z mi) 0 [some (.ref 2), some (.int l1), some (.int l2)] [] 74 (bv_mr mi) mi := by
  unfold f_X1_seenAround at h
  refine ev_aload_n dX1_seenAround_0 rfl ?_
  refine ev_iload_n dX1_seenAround_1 rfl ?_
  refine ev_iconst (0 : Int32) dX1_seenAround_2 (by decide) ?_
  refine ev_iload_n dX1_seenAround_3 rfl ?_
  obtain ⟨z1, hz1, h⟩ := bv_bd h
  refine er_VP [.int _, .int _, .int _] (fun _ _ q => q) lk_X1_28 dX1_seenAround_4 rfl rfl rfl rfl rfl (wm_X1_seenFrom _ _ _ _ _ hz1) ?_
  refine ev_aload_n dX1_seenAround_7 rfl ?_
  refine ev_iload_n dX1_seenAround_8 rfl ?_
  refine ev_iconst (1 : Int32) dX1_seenAround_9 (by decide) ?_
  refine ev_iload_n dX1_seenAround_10 rfl ?_
  obtain ⟨z2, hz2, h⟩ := bv_bd h
  refine er_VP [.int _, .int _, .int _] (fun _ _ q => q) lk_X1_28 dX1_seenAround_11 rfl rfl rfl rfl rfl (wm_X1_seenFrom _ _ _ _ _ hz2) ?_
  refine ev_ior dX1_seenAround_14 ?_
  obtain rfl := Option.some.inj h
  exact ev_iret rfl dX1_seenAround_15 ⟨rfl, rfl, rfl⟩
theorem wm_X1_seenAround   (l1 : Int32) (l2 : Int32) (mi : bv_Mem) (z : Int32) (h : f_X1_seenAround  l1 l2 mi = some z) : bv_Met yX1_seenAround MX1_seenAround bv_X0 3 74 74 [.ref 2, .int l1, .int l2] (bv_mr mi) mi (bv_QP z mi) :=
  bv_Met.of (pn_X 1 (by decide)) rfl (fun q => absurd q Bool.false_ne_true) (Nat.le_of_ble_eq_true rfl) (we_X1_seenAround   l1 l2 mi z h)
set_option maxRecDepth 100000 in
set_option maxHeartbeats 4000000 in
theorem we_J6_bitCount_0f7a4   (l0 : Int32) (mi : bv_Mem) (z : Int32) (h : f_J6_bitCount_0f7a4  l0 mi = some z) : bv_Ev MJ6_bitCount_0f7a4 bv_X0 0 74 74 (bv_QP z mi) 0 [some (.int l0)] [] 74 (bv_mr mi) mi := by
  unfold f_J6_bitCount_0f7a4 at h
  refine ev_iload_n dJ6_bitCount_0f7a4_0 rfl ?_
  refine ev_iload_n dJ6_bitCount_0f7a4_1 rfl ?_
  refine ev_iconst (1 : Int32) dJ6_bitCount_0f7a4_2 (by decide) ?_
  refine ev_iushr dJ6_bitCount_0f7a4_3 ?_
  refine ev_ldcw (1431655765 : Int32) dJ6_bitCount_0f7a4_4 lc_J6_265 ?_
  refine ev_iand dJ6_bitCount_0f7a4_7 ?_
  refine ev_isub dJ6_bitCount_0f7a4_8 ?_
  refine ev_istore_n dJ6_bitCount_0f7a4_9 rfl rfl ?_
  refine ev_iload_n dJ6_bitCount_0f7a4_10 rfl ?_
  refine ev_ldcw (858993459 : Int32) dJ6_bitCount_0f7a4_11 lc_J6_266 ?_
  refine ev_iand dJ6_bitCount_0f7a4_14 ?_
  refine ev_iload_n dJ6_bitCount_0f7a4_15 rfl ?_
  refine ev_iconst (2 : Int32) dJ6_bitCount_0f7a4_16 (by decide) ?_
  refine ev_iushr dJ6_bitCount_0f7a4_17 ?_
  refine ev_ldcw (858993459 : Int32) dJ6_bitCount_0f7a4_18 lc_J6_266 ?_
  refine ev_iand dJ6_bitCount_0f7a4_21 ?_
  refine ev_iadd dJ6_bitCount_0f7a4_22 ?_
  refine ev_istore_n dJ6_bitCount_0f7a4_23 rfl rfl ?_
  refine ev_iload_n dJ6_bitCount_0f7a4_24 rfl ?_
  refine ev_iload_n dJ6_bitCount_0f7a4_25 rfl ?_
  refine ev_iconst (4 : Int32) dJ6_bitCount_0f7a4_26 (by decide) ?_
  refine ev_iushr dJ6_bitCount_0f7a4_27 ?_
  refine ev_iadd dJ6_bitCount_0f7a4_28 ?_
  refine ev_ldcw (252645135 : Int32) dJ6_bitCount_0f7a4_29 lc_J6_267 ?_
  refine ev_iand dJ6_bitCount_0f7a4_32 ?_
  refine ev_istore_n dJ6_bitCount_0f7a4_33 rfl rfl ?_
  refine ev_iload_n dJ6_bitCount_0f7a4_34 rfl ?_
  refine ev_iload_n dJ6_bitCount_0f7a4_35 rfl ?_
  refine ev_bipush (8 : Int32) dJ6_bitCount_0f7a4_36 (by decide) ?_
  refine ev_iushr dJ6_bitCount_0f7a4_38 ?_
  refine ev_iadd dJ6_bitCount_0f7a4_39 ?_
  refine ev_istore_n dJ6_bitCount_0f7a4_40 rfl rfl ?_
  refine ev_iload_n dJ6_bitCount_0f7a4_41 rfl ?_
  refine ev_iload_n dJ6_bitCount_0f7a4_42 rfl ?_
  refine ev_bipush (16 : Int32) dJ6_bitCount_0f7a4_43 (by decide) ?_
  refine ev_iushr dJ6_bitCount_0f7a4_45 ?_
  refine ev_iadd dJ6_bitCount_0f7a4_46 ?_
  refine ev_istore_n dJ6_bitCount_0f7a4_47 rfl rfl ?_
  refine ev_iload_n dJ6_bitCount_0f7a4_48 rfl ?_
  refine ev_bipush (63 : Int32) dJ6_bitCount_0f7a4_49 (by decide) ?_
  refine ev_iand dJ6_bitCount_0f7a4_51 ?_
  obtain rfl := Option.some.inj h
  exact ev_iret rfl dJ6_bitCount_0f7a4_52 ⟨rfl, rfl, rfl⟩
theorem wm_J6_bitCount_0f7a4   (l0 : Int32) (mi : bv_Mem) (z : Int32) (h : f_J6_bitCount_0f7a4  l0 mi = some z) : bv_Met yJ6_bitCount_0f7a4 MJ6_bitCount_0f7a4 bv_X0 0 74 74 [.int l0] (bv_mr mi) mi (bv_QP z mi) :=
  bv_Met.of (by decide +kernel) rfl (fun q => absurd q Bool.false_ne_true) (Nat.le_of_ble_eq_true rfl) (we_J6_bitCount_0f7a4   l0 mi z h)
set_option maxRecDepth 100000 in
set_option maxHeartbeats 4000000 in
theorem wb_X5_villagesOn_4 (mi : bv_Mem) : ∀ (fu : Nat) (l1 : Int32) (l2 : Int32) (l3 : Int32) (z : Int32), b_X5_villagesOn_4 mi fu l1 l2 l3 = some z → bv_Ev MX5_villagesOn bv_X0 0 74 74 (bv_QP z mi) 4 [some (.ref 1), some (.int l1), some (.int l2), some (.int l3)] [] 74 (bv_mr mi) mi := by
  intro fu
  induction fu with
  | zero =>
    intro l1 l2 l3 z h
    rw [b_X5_villagesOn_4] at h
    cases h
  | succ fu ih =>
    intro l1 l2 l3 z h
    rw [b_X5_villagesOn_4] at h
    refine ev_iload_n dX5_villagesOn_4 rfl ?_
    refine ev_aload_n dX5_villagesOn_5 rfl ?_
    refine ev_getI lf_X5_22 dX5_villagesOn_6 rfl rfl ?_
    refine ev_icmp_ge 34 dX5_villagesOn_9 (by decide) (fun c1 => ?_) (fun c1 => ?_)
    · replace h := bv_tt c1 h
      refine ev_iload_n dX5_villagesOn_34 rfl ?_
      obtain rfl := Option.some.inj h
      exact ev_iret rfl dX5_villagesOn_35 ⟨rfl, rfl, rfl⟩
    · replace h := bv_ff c1 h
      refine ev_aload_n dX5_villagesOn_12 rfl ?_
      refine ev_getR 5 lf_X5_18 dX5_villagesOn_13 rfl rfl rfl ?_
      refine ev_iload_n dX5_villagesOn_16 rfl ?_
      obtain ⟨g1, h⟩ := bv_gd h
      refine ev_iald (N := 5) dX5_villagesOn_17 rfl g1 ?_
      refine ev_iload_n dX5_villagesOn_18 rfl ?_
      refine ev_icmp_ne 28 dX5_villagesOn_19 (by decide) (fun c2 => ?_) (fun c2 => ?_)
      · replace h := bv_ff c2 h
        refine ev_iinc (l3 + 1) dX5_villagesOn_28 rfl rfl rfl rfl ?_
        refine ev_goto 4 dX5_villagesOn_31 (by decide) ?_
        exact ev_weak (by exact And.intro rfl (And.intro rfl (And.intro rfl (And.intro rfl (trivial))))) (ih _ _ _ _ h)
      · replace h := bv_tt c2 h
        refine ev_iload_n dX5_villagesOn_22 rfl ?_
        refine ev_iconst (1 : Int32) dX5_villagesOn_23 (by decide) ?_
        refine ev_iload_n dX5_villagesOn_24 rfl ?_
        refine ev_ishl dX5_villagesOn_25 ?_
        refine ev_ior dX5_villagesOn_26 ?_
        refine ev_istore_n dX5_villagesOn_27 rfl rfl ?_
        refine ev_iinc (l3 + 1) dX5_villagesOn_28 rfl rfl rfl rfl ?_
        refine ev_goto 4 dX5_villagesOn_31 (by decide) ?_
        exact ev_weak (by exact And.intro rfl (And.intro rfl (And.intro rfl (And.intro rfl (trivial))))) (ih _ _ _ _ h)
set_option maxRecDepth 100000 in
set_option maxHeartbeats 4000000 in
theorem we_X5_villagesOn   (l1 : Int32) (mi : bv_Mem) (z : Int32) (h : f_X5_villagesOn  l1 mi = some z) : bv_Ev MX5_villagesOn bv_X0 0 74 74 (bv_QP z mi) 0 [some (.ref 1), some (.int l1), none, none] [] 74 (bv_mr mi) mi := by
  unfold f_X5_villagesOn at h
  refine ev_iconst (0 : Int32) dX5_villagesOn_0 (by decide) ?_
  refine ev_istore_n dX5_villagesOn_1 rfl rfl ?_
  refine ev_iconst (0 : Int32) dX5_villagesOn_2 (by decide) ?_
  refine ev_istore_n dX5_villagesOn_3 rfl rfl ?_
  exact ev_weak (by exact And.intro rfl (And.intro rfl (And.intro rfl (And.intro rfl (trivial))))) (wb_X5_villagesOn_4 mi 400 _ _ _ _ h)
theorem wm_X5_villagesOn   (l1 : Int32) (mi : bv_Mem) (z : Int32) (h : f_X5_villagesOn  l1 mi = some z) : bv_Met yX5_villagesOn MX5_villagesOn bv_X0 0 74 74 [.ref 1, .int l1] (bv_mr mi) mi (bv_QP z mi) :=
  bv_Met.of (pn_X 5 (by decide)) rfl (fun q => absurd q Bool.false_ne_true) (Nat.le_of_ble_eq_true rfl) (we_X5_villagesOn   l1 mi z h)
set_option maxRecDepth 100000 in
set_option maxHeartbeats 4000000 in
theorem we_X7_ofPlace   (l1 : Int32) (l2 : Int32) (mi : bv_Mem) (z : Int32 × bv_Mem) (h : f_X7_ofPlace  l1 l2 mi = some z) : bv_Ev MX7_ofPlace bv_X0 4 74 74 (bv_QI z) 0 [some (.ref 0), some (.int l1), some (.int l2), none] [] 74 (bv_mr mi) mi := by
  unfold f_X7_ofPlace at h
  refine ev_iload_n dX7_ofPlace_0 rfl ?_
  obtain ⟨z1, hz1, h⟩ := bv_bd h
  refine er_SP [.int _] (fun _ _ q => q) lk_X7_54 dX7_ofPlace_1 rfl rfl rfl rfl (wm_X7_isPlace _ _ _ hz1) ?_
  refine ev_if_eq 16 dX7_ofPlace_4 (by decide) (fun c1 => ?_) (fun c1 => ?_)
  · replace h := bv_tt c1 h
    refine ev_aload_n dX7_ofPlace_16 rfl ?_
    refine ev_iconst (1 : Int32) dX7_ofPlace_17 (by decide) ?_
    obtain ⟨z2, hz2, h⟩ := bv_bd h
    refine er_VI [.int _] (fun _ _ q => q) lk_X7_62 dX7_ofPlace_18 rfl rfl rfl rfl rfl (wm_X7_error _ _ _ hz2) ?_
    obtain rfl := Option.some.inj h
    exact ev_iret rfl dX7_ofPlace_21 ⟨rfl, rfl, rfl⟩
  · replace h := bv_ff c1 h
    refine ev_iload_n dX7_ofPlace_7 rfl ?_
    refine ev_iconst (0 : Int32) dX7_ofPlace_8 (by decide) ?_
    refine ev_iconst (5 : Int32) dX7_ofPlace_9 (by decide) ?_
    obtain ⟨z3, hz3, h⟩ := bv_bd h
    refine er_SP [.int _, .int _, .int _] (fun _ _ q => q) lk_X7_58 dX7_ofPlace_10 rfl rfl rfl rfl (wm_X7_isWithin _ _ _ _ _ hz3) ?_
    refine ev_if_ne 22 dX7_ofPlace_13 (by decide) (fun c2 => ?_) (fun c2 => ?_)
    · replace h := bv_ff c2 h
      refine ev_aload_n dX7_ofPlace_22 rfl ?_
      refine ev_getR 1 lf_X7_10 dX7_ofPlace_23 rfl rfl rfl ?_
      refine ev_getR 2 lf_X7_66 dX7_ofPlace_26 rfl rfl rfl ?_
      refine ev_astore_n dX7_ofPlace_29 rfl rfl ?_
      refine ev_iload_n dX7_ofPlace_30 rfl ?_
      by_cases c3 : l2 = (0 : Int32)
      · replace h := bv_tt c3 h
        refine ev_tableIn (33) 64 dX7_ofPlace_31 (by rw [c3]; decide) (by rw [c3]; decide) (by rw [c3]; decide) (by decide) ?_
        refine ev_aload_n dX7_ofPlace_64 rfl ?_
        refine ev_getR 3 lf_X7_70 dX7_ofPlace_65 rfl rfl rfl ?_
        refine ev_iload_n dX7_ofPlace_68 rfl ?_
        obtain ⟨g1, h⟩ := bv_gd h
        refine ev_iald (N := 20) dX7_ofPlace_69 rfl g1 ?_
        obtain rfl := Option.some.inj h
        exact ev_iret rfl dX7_ofPlace_70 ⟨rfl, rfl, rfl⟩
      replace h := bv_ff c3 h
      by_cases c4 : l2 = (1 : Int32)
      · replace h := bv_tt c4 h
        refine ev_tableIn (40) 71 dX7_ofPlace_31 (by rw [c4]; decide) (by rw [c4]; decide) (by rw [c4]; decide) (by decide) ?_
        refine ev_aload_n dX7_ofPlace_71 rfl ?_
        refine ev_getR 4 lf_X7_75 dX7_ofPlace_72 rfl rfl rfl ?_
        refine ev_iload_n dX7_ofPlace_75 rfl ?_
        obtain ⟨g2, h⟩ := bv_gd h
        refine ev_iald (N := 20) dX7_ofPlace_76 rfl g2 ?_
        obtain rfl := Option.some.inj h
        exact ev_iret rfl dX7_ofPlace_77 ⟨rfl, rfl, rfl⟩
      replace h := bv_ff c4 h
      by_cases c5 : l2 = (2 : Int32)
      · replace h := bv_tt c5 h
        refine ev_tableIn (47) 78 dX7_ofPlace_31 (by rw [c5]; decide) (by rw [c5]; decide) (by rw [c5]; decide) (by decide) ?_
        refine ev_aload_n dX7_ofPlace_78 rfl ?_
        refine ev_iload_n dX7_ofPlace_79 rfl ?_
        refine ev_iconst (0 : Int32) dX7_ofPlace_80 (by decide) ?_
        refine ev_aload_n dX7_ofPlace_81 rfl ?_
        refine ev_iconst (0 : Int32) dX7_ofPlace_82 (by decide) ?_
        obtain ⟨z4, hz4, h⟩ := bv_bd h
        refine er_VP [.int _] (fun _ _ q => q) lk_X7_78 dX7_ofPlace_83 rfl rfl rfl rfl rfl (wm_X1_goneBehind _ _ _ hz4) ?_
        obtain ⟨z5, hz5, h⟩ := bv_bd h
        refine er_VP [.int _, .int _, .int _] (fun _ _ q => q) lk_X7_81 dX7_ofPlace_86 rfl rfl rfl rfl rfl (wm_X1_seenFrom _ _ _ _ _ hz5) ?_
        obtain rfl := Option.some.inj h
        exact ev_iret rfl dX7_ofPlace_89 ⟨rfl, rfl, rfl⟩
      replace h := bv_ff c5 h
      by_cases c6 : l2 = (3 : Int32)
      · replace h := bv_tt c6 h
        refine ev_tableIn (59) 90 dX7_ofPlace_31 (by rw [c6]; decide) (by rw [c6]; decide) (by rw [c6]; decide) (by decide) ?_
        refine ev_aload_n dX7_ofPlace_90 rfl ?_
        refine ev_iload_n dX7_ofPlace_91 rfl ?_
        refine ev_iconst (1 : Int32) dX7_ofPlace_92 (by decide) ?_
        refine ev_aload_n dX7_ofPlace_93 rfl ?_
        refine ev_iconst (0 : Int32) dX7_ofPlace_94 (by decide) ?_
        obtain ⟨z6, hz6, h⟩ := bv_bd h
        refine er_VP [.int _] (fun _ _ q => q) lk_X7_78 dX7_ofPlace_95 rfl rfl rfl rfl rfl (wm_X1_goneBehind _ _ _ hz6) ?_
        obtain ⟨z7, hz7, h⟩ := bv_bd h
        refine er_VP [.int _, .int _, .int _] (fun _ _ q => q) lk_X7_81 dX7_ofPlace_98 rfl rfl rfl rfl rfl (wm_X1_seenFrom _ _ _ _ _ hz7) ?_
        obtain rfl := Option.some.inj h
        exact ev_iret rfl dX7_ofPlace_101 ⟨rfl, rfl, rfl⟩
      replace h := bv_ff c6 h
      by_cases c7 : l2 = (4 : Int32)
      · replace h := bv_tt c7 h
        refine ev_tableIn (71) 102 dX7_ofPlace_31 (by rw [c7]; decide) (by rw [c7]; decide) (by rw [c7]; decide) (by decide) ?_
        refine ev_aload_n dX7_ofPlace_102 rfl ?_
        refine ev_iload_n dX7_ofPlace_103 rfl ?_
        refine ev_aload_n dX7_ofPlace_104 rfl ?_
        refine ev_iconst (0 : Int32) dX7_ofPlace_105 (by decide) ?_
        obtain ⟨z8, hz8, h⟩ := bv_bd h
        refine er_VP [.int _] (fun _ _ q => q) lk_X7_78 dX7_ofPlace_106 rfl rfl rfl rfl rfl (wm_X1_goneBehind _ _ _ hz8) ?_
        obtain ⟨z9, hz9, h⟩ := bv_bd h
        refine er_VP [.int _, .int _] (fun _ _ q => q) lk_X7_85 dX7_ofPlace_109 rfl rfl rfl rfl rfl (wm_X1_seenAround _ _ _ _ hz9) ?_
        obtain ⟨z10, hz10, h⟩ := bv_bd h
        refine er_SP [.int _] (fun _ _ q => q) lk_X7_89 dX7_ofPlace_112 rfl rfl rfl rfl (wm_J6_bitCount_0f7a4 _ _ _ hz10) ?_
        obtain rfl := Option.some.inj h
        exact ev_iret rfl dX7_ofPlace_115 ⟨rfl, rfl, rfl⟩
      replace h := bv_ff c7 h
      refine ev_tableOut 116 dX7_ofPlace_31 (bv_sw 5 (by decide) (fun j hj => by match j, hj with | 0, _ => exact c3 | 1, _ => exact c4 | 2, _ => exact c5 | 3, _ => exact c6 | 4, _ => exact c7 | j + 5, hj => exact absurd hj (by omega))) (by decide) ?_
      refine ev_aload_n dX7_ofPlace_116 rfl ?_
      refine ev_getR 1 lf_X7_10 dX7_ofPlace_117 rfl rfl rfl ?_
      refine ev_iload_n dX7_ofPlace_120 rfl ?_
      obtain ⟨z11, hz11, h⟩ := bv_bd h
      refine er_VP [.int _] (fun _ _ q => q) lk_X7_94 dX7_ofPlace_121 rfl rfl rfl rfl rfl (wm_X5_villagesOn _ _ _ hz11) ?_
      obtain rfl := Option.some.inj h
      exact ev_iret rfl dX7_ofPlace_124 ⟨rfl, rfl, rfl⟩
    · replace h := bv_tt c2 h
      refine ev_aload_n dX7_ofPlace_16 rfl ?_
      refine ev_iconst (1 : Int32) dX7_ofPlace_17 (by decide) ?_
      obtain ⟨z12, hz12, h⟩ := bv_bd h
      refine er_VI [.int _] (fun _ _ q => q) lk_X7_62 dX7_ofPlace_18 rfl rfl rfl rfl rfl (wm_X7_error _ _ _ hz12) ?_
      obtain rfl := Option.some.inj h
      exact ev_iret rfl dX7_ofPlace_21 ⟨rfl, rfl, rfl⟩
theorem wm_X7_ofPlace   (l1 : Int32) (l2 : Int32) (mi : bv_Mem) (z : Int32 × bv_Mem) (h : f_X7_ofPlace  l1 l2 mi = some z) : bv_Met yX7_ofPlace MX7_ofPlace bv_X0 4 74 74 [.ref 0, .int l1, .int l2] (bv_mr mi) mi (bv_QI z) :=
  bv_Met.of (pn_X 7 (by decide)) rfl (fun q => absurd q Bool.false_ne_true) (Nat.le_of_ble_eq_true rfl) (we_X7_ofPlace   l1 l2 mi z h)
set_option maxRecDepth 100000 in
set_option maxHeartbeats 4000000 in
theorem we_X7_village   (l1 : Int32) (mi : bv_Mem) (z : Int32 × bv_Mem) (h : f_X7_village  l1 mi = some z) : bv_Ev MX7_village bv_X0 2 74 74 (bv_QI z) 0 [some (.ref 0), some (.int l1)] [] 74 (bv_mr mi) mi := by
  unfold f_X7_village at h
  refine ev_iload_n dX7_village_0 rfl ?_
  obtain ⟨z1, hz1, h⟩ := bv_bd h
  refine er_SP [.int _] (fun _ _ q => q) lk_X7_54 dX7_village_1 rfl rfl rfl rfl (wm_X7_isPlace _ _ _ hz1) ?_
  refine ev_if_ne 13 dX7_village_4 (by decide) (fun c1 => ?_) (fun c1 => ?_)
  · replace h := bv_ff c1 h
    refine ev_aload_n dX7_village_13 rfl ?_
    refine ev_getR 1 lf_X7_10 dX7_village_14 rfl rfl rfl ?_
    refine ev_getI lf_X7_97 dX7_village_17 rfl rfl ?_
    refine ev_iconst (5 : Int32) dX7_village_20 (by decide) ?_
    refine ev_icmp_lt 30 dX7_village_21 (by decide) (fun c2 => ?_) (fun c2 => ?_)
    · replace h := bv_tt c2 h
      refine ev_aload_n dX7_village_30 rfl ?_
      refine ev_getR 1 lf_X7_10 dX7_village_31 rfl rfl rfl ?_
      refine ev_getR 5 lf_X7_100 dX7_village_34 rfl rfl rfl ?_
      refine ev_aload_n dX7_village_37 rfl ?_
      refine ev_getR 1 lf_X7_10 dX7_village_38 rfl rfl rfl ?_
      refine ev_getI lf_X7_97 dX7_village_41 rfl rfl ?_
      refine ev_iload_n dX7_village_44 rfl ?_
      obtain ⟨g1, h⟩ := bv_gd h
      refine er_iast (N := 5) dX7_village_45 rfl g1 ?_
      refine ev_aload_n dX7_village_46 rfl ?_
      refine ev_getR 1 lf_X7_10 dX7_village_47 rfl rfl rfl ?_
      refine ev_dup dX7_village_50 rfl ?_
      refine ev_getI lf_X7_97 dX7_village_51 rfl rfl ?_
      refine ev_iconst (1 : Int32) dX7_village_54 (by decide) ?_
      refine ev_iadd dX7_village_55 ?_
      refine er_putI lf_X7_97 dX7_village_56 rfl rfl rfl rfl ?_
      refine ev_aload_n dX7_village_59 rfl ?_
      refine ev_getR 1 lf_X7_10 dX7_village_60 rfl rfl rfl ?_
      refine ev_getI lf_X7_97 dX7_village_63 rfl rfl ?_
      refine ev_iconst (1 : Int32) dX7_village_66 (by decide) ?_
      refine ev_isub dX7_village_67 ?_
      obtain rfl := Option.some.inj h
      exact ev_iret rfl dX7_village_68 ⟨rfl, rfl, rfl⟩
    · replace h := bv_ff c2 h
      refine ev_aload_n dX7_village_24 rfl ?_
      refine ev_iconst (4 : Int32) dX7_village_25 (by decide) ?_
      obtain ⟨z2, hz2, h⟩ := bv_bd h
      refine er_VI [.int _] (fun _ _ q => q) lk_X7_62 dX7_village_26 rfl rfl rfl rfl rfl (wm_X7_error _ _ _ hz2) ?_
      obtain rfl := Option.some.inj h
      exact ev_iret rfl dX7_village_29 ⟨rfl, rfl, rfl⟩
  · replace h := bv_tt c1 h
    refine ev_aload_n dX7_village_7 rfl ?_
    refine ev_iconst (1 : Int32) dX7_village_8 (by decide) ?_
    obtain ⟨z3, hz3, h⟩ := bv_bd h
    refine er_VI [.int _] (fun _ _ q => q) lk_X7_62 dX7_village_9 rfl rfl rfl rfl rfl (wm_X7_error _ _ _ hz3) ?_
    obtain rfl := Option.some.inj h
    exact ev_iret rfl dX7_village_12 ⟨rfl, rfl, rfl⟩
theorem wm_X7_village   (l1 : Int32) (mi : bv_Mem) (z : Int32 × bv_Mem) (h : f_X7_village  l1 mi = some z) : bv_Met yX7_village MX7_village bv_X0 2 74 74 [.ref 0, .int l1] (bv_mr mi) mi (bv_QI z) :=
  bv_Met.of (pn_X 7 (by decide)) rfl (fun q => absurd q Bool.false_ne_true) (Nat.le_of_ble_eq_true rfl) (we_X7_village   l1 mi z h)
set_option maxRecDepth 100000 in
set_option maxHeartbeats 4000000 in
theorem we_X7_isVillage   (l1 : Int32) (mi : bv_Mem) (z : Int32) (h : f_X7_isVillage  l1 mi = some z) : bv_Ev MX7_isVillage bv_X0 1 74 74 (bv_QP z mi) 0 [some (.ref 0), some (.int l1)] [] 74 (bv_mr mi) mi := by
  unfold f_X7_isVillage at h
  refine ev_iload_n dX7_isVillage_0 rfl ?_
  refine ev_iconst (0 : Int32) dX7_isVillage_1 (by decide) ?_
  refine ev_aload_n dX7_isVillage_2 rfl ?_
  refine ev_getR 1 lf_X7_10 dX7_isVillage_3 rfl rfl rfl ?_
  refine ev_getI lf_X7_97 dX7_isVillage_6 rfl rfl ?_
  refine ev_iconst (1 : Int32) dX7_isVillage_9 (by decide) ?_
  refine ev_isub dX7_isVillage_10 ?_
  obtain ⟨z1, hz1, h⟩ := bv_bd h
  refine er_SP [.int _, .int _, .int _] (fun _ _ q => q) lk_X7_58 dX7_isVillage_11 rfl rfl rfl rfl (wm_X7_isWithin _ _ _ _ _ hz1) ?_
  obtain ⟨g1, h⟩ := bv_gd h
  obtain rfl := Option.some.inj h
  exact ev_zret rfl g1 dX7_isVillage_14 ⟨rfl, rfl, rfl⟩
theorem wm_X7_isVillage   (l1 : Int32) (mi : bv_Mem) (z : Int32) (h : f_X7_isVillage  l1 mi = some z) : bv_Met yX7_isVillage MX7_isVillage bv_X0 1 74 74 [.ref 0, .int l1] (bv_mr mi) mi (bv_QP z mi) :=
  bv_Met.of (pn_X 7 (by decide)) rfl (fun q => absurd q Bool.false_ne_true) (Nat.le_of_ble_eq_true rfl) (we_X7_isVillage   l1 mi z h)
set_option maxRecDepth 100000 in
set_option maxHeartbeats 4000000 in
theorem we_X7_moves   (l1 : Int32) (l2 : Int32) (mi : bv_Mem) (z : Int32 × bv_Mem) (h : f_X7_moves  l1 l2 mi = some z) : bv_Ev MX7_moves bv_X0 2 74 74 (bv_QI z) 0 [some (.ref 0), some (.int l1), some (.int l2), none] [] 74 (bv_mr mi) mi := by
  unfold f_X7_moves at h
  refine ev_aload_n dX7_moves_0 rfl ?_
  refine ev_iload_n dX7_moves_1 rfl ?_
  obtain ⟨z1, hz1, h⟩ := bv_bd h
  refine er_VP [.int _] (fun _ _ q => q) lk_X7_103 dX7_moves_2 rfl rfl rfl rfl rfl (wm_X7_isVillage _ _ _ hz1) ?_
  refine ev_if_eq 15 dX7_moves_5 (by decide) (fun c1 => ?_) (fun c1 => ?_)
  · replace h := bv_tt c1 h
    refine ev_aload_n dX7_moves_15 rfl ?_
    refine ev_iconst (1 : Int32) dX7_moves_16 (by decide) ?_
    obtain ⟨z2, hz2, h⟩ := bv_bd h
    refine er_VI [.int _] (fun _ _ q => q) lk_X7_62 dX7_moves_17 rfl rfl rfl rfl rfl (wm_X7_error _ _ _ hz2) ?_
    obtain rfl := Option.some.inj h
    exact ev_iret rfl dX7_moves_20 ⟨rfl, rfl, rfl⟩
  · replace h := bv_ff c1 h
    refine ev_iload_n dX7_moves_8 rfl ?_
    obtain ⟨z3, hz3, h⟩ := bv_bd h
    refine er_SP [.int _] (fun _ _ q => q) lk_X7_54 dX7_moves_9 rfl rfl rfl rfl (wm_X7_isPlace _ _ _ hz3) ?_
    refine ev_if_ne 21 dX7_moves_12 (by decide) (fun c2 => ?_) (fun c2 => ?_)
    · replace h := bv_ff c2 h
      refine ev_aload_n dX7_moves_21 rfl ?_
      refine ev_getR 1 lf_X7_10 dX7_moves_22 rfl rfl rfl ?_
      refine ev_getR 5 lf_X7_100 dX7_moves_25 rfl rfl rfl ?_
      refine ev_iload_n dX7_moves_28 rfl ?_
      obtain ⟨g1, h⟩ := bv_gd h
      refine ev_iald (N := 5) dX7_moves_29 rfl g1 ?_
      refine ev_istore_n dX7_moves_30 rfl rfl ?_
      refine ev_aload_n dX7_moves_31 rfl ?_
      refine ev_getR 1 lf_X7_10 dX7_moves_32 rfl rfl rfl ?_
      refine ev_getR 5 lf_X7_100 dX7_moves_35 rfl rfl rfl ?_
      refine ev_iload_n dX7_moves_38 rfl ?_
      refine ev_iload_n dX7_moves_39 rfl ?_
      refine er_iast (N := 5) dX7_moves_40 rfl g1 ?_
      refine ev_iload_n dX7_moves_41 rfl ?_
      obtain rfl := Option.some.inj h
      exact ev_iret rfl dX7_moves_42 ⟨rfl, rfl, rfl⟩
    · replace h := bv_tt c2 h
      refine ev_aload_n dX7_moves_15 rfl ?_
      refine ev_iconst (1 : Int32) dX7_moves_16 (by decide) ?_
      obtain ⟨z4, hz4, h⟩ := bv_bd h
      refine er_VI [.int _] (fun _ _ q => q) lk_X7_62 dX7_moves_17 rfl rfl rfl rfl rfl (wm_X7_error _ _ _ hz4) ?_
      obtain rfl := Option.some.inj h
      exact ev_iret rfl dX7_moves_20 ⟨rfl, rfl, rfl⟩
theorem wm_X7_moves   (l1 : Int32) (l2 : Int32) (mi : bv_Mem) (z : Int32 × bv_Mem) (h : f_X7_moves  l1 l2 mi = some z) : bv_Met yX7_moves MX7_moves bv_X0 2 74 74 [.ref 0, .int l1, .int l2] (bv_mr mi) mi (bv_QI z) :=
  bv_Met.of (pn_X 7 (by decide)) rfl (fun q => absurd q Bool.false_ne_true) (Nat.le_of_ble_eq_true rfl) (we_X7_moves   l1 l2 mi z h)
set_option maxRecDepth 100000 in
set_option maxHeartbeats 4000000 in
theorem we_X7_at   (l1 : Int32) (mi : bv_Mem) (z : Int32 × bv_Mem) (h : f_X7_at  l1 mi = some z) : bv_Ev MX7_at bv_X0 2 74 74 (bv_QI z) 0 [some (.ref 0), some (.int l1)] [] 74 (bv_mr mi) mi := by
  unfold f_X7_at at h
  refine ev_aload_n dX7_at_0 rfl ?_
  refine ev_iload_n dX7_at_1 rfl ?_
  obtain ⟨z1, hz1, h⟩ := bv_bd h
  refine er_VP [.int _] (fun _ _ q => q) lk_X7_103 dX7_at_2 rfl rfl rfl rfl rfl (wm_X7_isVillage _ _ _ hz1) ?_
  refine ev_if_ne 14 dX7_at_5 (by decide) (fun c1 => ?_) (fun c1 => ?_)
  · replace h := bv_ff c1 h
    refine ev_aload_n dX7_at_14 rfl ?_
    refine ev_getR 1 lf_X7_10 dX7_at_15 rfl rfl rfl ?_
    refine ev_getR 5 lf_X7_100 dX7_at_18 rfl rfl rfl ?_
    refine ev_iload_n dX7_at_21 rfl ?_
    obtain ⟨g1, h⟩ := bv_gd h
    refine ev_iald (N := 5) dX7_at_22 rfl g1 ?_
    obtain rfl := Option.some.inj h
    exact ev_iret rfl dX7_at_23 ⟨rfl, rfl, rfl⟩
  · replace h := bv_tt c1 h
    refine ev_aload_n dX7_at_8 rfl ?_
    refine ev_iconst (1 : Int32) dX7_at_9 (by decide) ?_
    obtain ⟨z2, hz2, h⟩ := bv_bd h
    refine er_VI [.int _] (fun _ _ q => q) lk_X7_62 dX7_at_10 rfl rfl rfl rfl rfl (wm_X7_error _ _ _ hz2) ?_
    obtain rfl := Option.some.inj h
    exact ev_iret rfl dX7_at_13 ⟨rfl, rfl, rfl⟩
theorem wm_X7_at   (l1 : Int32) (mi : bv_Mem) (z : Int32 × bv_Mem) (h : f_X7_at  l1 mi = some z) : bv_Met yX7_at MX7_at bv_X0 2 74 74 [.ref 0, .int l1] (bv_mr mi) mi (bv_QI z) :=
  bv_Met.of (pn_X 7 (by decide)) rfl (fun q => absurd q Bool.false_ne_true) (Nat.le_of_ble_eq_true rfl) (we_X7_at   l1 mi z h)
set_option maxRecDepth 100000 in
set_option maxHeartbeats 4000000 in
theorem we_X7_isKindWithNumber   (l0 : Int32) (mi : bv_Mem) (z : Int32) (h : f_X7_isKindWithNumber  l0 mi = some z) : bv_Ev MX7_isKindWithNumber bv_X0 1 74 74 (bv_QP z mi) 0 [some (.int l0)] [] 74 (bv_mr mi) mi := by
  unfold f_X7_isKindWithNumber at h
  refine ev_iload_n dX7_isKindWithNumber_0 rfl ?_
  refine ev_iconst (0 : Int32) dX7_isKindWithNumber_1 (by decide) ?_
  refine ev_bipush (69 : Int32) dX7_isKindWithNumber_2 (by decide) ?_
  obtain ⟨z1, hz1, h⟩ := bv_bd h
  refine er_SP [.int _, .int _, .int _] (fun _ _ q => q) lk_X7_58 dX7_isKindWithNumber_4 rfl rfl rfl rfl (wm_X7_isWithin _ _ _ _ _ hz1) ?_
  obtain ⟨g1, h⟩ := bv_gd h
  obtain rfl := Option.some.inj h
  exact ev_zret rfl g1 dX7_isKindWithNumber_7 ⟨rfl, rfl, rfl⟩
theorem wm_X7_isKindWithNumber   (l0 : Int32) (mi : bv_Mem) (z : Int32) (h : f_X7_isKindWithNumber  l0 mi = some z) : bv_Met yX7_isKindWithNumber MX7_isKindWithNumber bv_X0 1 74 74 [.int l0] (bv_mr mi) mi (bv_QP z mi) :=
  bv_Met.of (pn_X 7 (by decide)) rfl (fun q => absurd q Bool.false_ne_true) (Nat.le_of_ble_eq_true rfl) (we_X7_isKindWithNumber   l0 mi z h)
set_option maxRecDepth 100000 in
set_option maxHeartbeats 4000000 in
theorem we_X7_isSide   (l0 : Int32) (mi : bv_Mem) (z : Int32) (h : f_X7_isSide  l0 mi = some z) : bv_Ev MX7_isSide bv_X0 0 74 74 (bv_QP z mi) 0 [some (.int l0)] [] 74 (bv_mr mi) mi := by
  unfold f_X7_isSide at h
  refine ev_iload_n dX7_isSide_0 rfl ?_
  refine ev_if_eq 9 dX7_isSide_1 (by decide) (fun c1 => ?_) (fun c1 => ?_)
  · replace h := bv_tt c1 h
    refine ev_iconst (1 : Int32) dX7_isSide_9 (by decide) ?_
    refine ev_goto 14 dX7_isSide_10 (by decide) ?_
    obtain rfl := Option.some.inj h
    exact ev_zret rfl (Or.inr rfl) dX7_isSide_14 ⟨rfl, rfl, rfl⟩
  · replace h := bv_ff c1 h
    refine ev_iload_n dX7_isSide_4 rfl ?_
    refine ev_iconst (1 : Int32) dX7_isSide_5 (by decide) ?_
    refine ev_icmp_ne 13 dX7_isSide_6 (by decide) (fun c2 => ?_) (fun c2 => ?_)
    · replace h := bv_ff c2 h
      refine ev_iconst (0 : Int32) dX7_isSide_13 (by decide) ?_
      obtain rfl := Option.some.inj h
      exact ev_zret rfl (Or.inl rfl) dX7_isSide_14 ⟨rfl, rfl, rfl⟩
    · replace h := bv_tt c2 h
      refine ev_iconst (1 : Int32) dX7_isSide_9 (by decide) ?_
      refine ev_goto 14 dX7_isSide_10 (by decide) ?_
      obtain rfl := Option.some.inj h
      exact ev_zret rfl (Or.inr rfl) dX7_isSide_14 ⟨rfl, rfl, rfl⟩
theorem wm_X7_isSide   (l0 : Int32) (mi : bv_Mem) (z : Int32) (h : f_X7_isSide  l0 mi = some z) : bv_Met yX7_isSide MX7_isSide bv_X0 0 74 74 [.int l0] (bv_mr mi) mi (bv_QP z mi) :=
  bv_Met.of (pn_X 7 (by decide)) rfl (fun q => absurd q Bool.false_ne_true) (Nat.le_of_ble_eq_true rfl) (we_X7_isSide   l0 mi z h)
set_option maxRecDepth 100000 in
set_option maxHeartbeats 4000000 in
theorem we_X7_isSomePlaces   (l0 : Int32) (mi : bv_Mem) (z : Int32) (h : f_X7_isSomePlaces  l0 mi = some z) : bv_Ev MX7_isSomePlaces bv_X0 1 74 74 (bv_QP z mi) 0 [some (.int l0)] [] 74 (bv_mr mi) mi := by
  unfold f_X7_isSomePlaces at h
  refine ev_iload_n dX7_isSomePlaces_0 rfl ?_
  refine ev_iconst (1 : Int32) dX7_isSomePlaces_1 (by decide) ?_
  refine ev_ldc (1048575 : Int32) dX7_isSomePlaces_2 lc_X7_229 ?_
  obtain ⟨z1, hz1, h⟩ := bv_bd h
  refine er_SP [.int _, .int _, .int _] (fun _ _ q => q) lk_X7_58 dX7_isSomePlaces_4 rfl rfl rfl rfl (wm_X7_isWithin _ _ _ _ _ hz1) ?_
  obtain ⟨g1, h⟩ := bv_gd h
  obtain rfl := Option.some.inj h
  exact ev_zret rfl g1 dX7_isSomePlaces_7 ⟨rfl, rfl, rfl⟩
theorem wm_X7_isSomePlaces   (l0 : Int32) (mi : bv_Mem) (z : Int32) (h : f_X7_isSomePlaces  l0 mi = some z) : bv_Met yX7_isSomePlaces MX7_isSomePlaces bv_X0 1 74 74 [.int l0] (bv_mr mi) mi (bv_QP z mi) :=
  bv_Met.of (pn_X 7 (by decide)) rfl (fun q => absurd q Bool.false_ne_true) (Nat.le_of_ble_eq_true rfl) (we_X7_isSomePlaces   l0 mi z h)
set_option maxRecDepth 100000 in
set_option maxHeartbeats 4000000 in
theorem we_X5_textOf   (l1 : Int32) (mi : bv_Mem) (z : Nat) (h : f_X5_textOf  l1 mi = some z) : bv_Ev MX5_textOf bv_X0 0 74 74 (bv_QR z mi) 0 [some (.ref 1), some (.int l1)] [] 74 (bv_mr mi) mi := by
  unfold f_X5_textOf at h
  refine ev_iload_n dX5_textOf_0 rfl ?_
  refine ev_if_ne 11 dX5_textOf_1 (by decide) (fun c1 => ?_) (fun c1 => ?_)
  · replace h := bv_ff c1 h
    refine ev_aload_n dX5_textOf_11 rfl ?_
    refine ev_getR 11 lf_X5_51 dX5_textOf_12 rfl rfl rfl ?_
    obtain rfl := Option.some.inj h
    exact ev_aret rfl dX5_textOf_15 ⟨rfl, rfl, rfl⟩
  · replace h := bv_tt c1 h
    refine ev_aload_n dX5_textOf_4 rfl ?_
    refine ev_getR 9 lf_X5_48 dX5_textOf_5 rfl rfl rfl ?_
    refine ev_goto 15 dX5_textOf_8 (by decide) ?_
    obtain rfl := Option.some.inj h
    exact ev_aret rfl dX5_textOf_15 ⟨rfl, rfl, rfl⟩
theorem wm_X5_textOf   (l1 : Int32) (mi : bv_Mem) (z : Nat) (h : f_X5_textOf  l1 mi = some z) : bv_Met yX5_textOf MX5_textOf bv_X0 0 74 74 [.ref 1, .int l1] (bv_mr mi) mi (bv_QR z mi) :=
  bv_Met.of (pn_X 5 (by decide)) rfl (fun q => absurd q Bool.false_ne_true) (Nat.le_of_ble_eq_true rfl) (we_X5_textOf   l1 mi z h)
set_option maxRecDepth 100000 in
set_option maxHeartbeats 4000000 in
theorem we_X7_held   (l0 : Int32) (l1 : Int32) (l2 : Int32) (mi : bv_Mem) (z : Int32) (h : f_X7_held  l0 l1 l2 mi = some z) : bv_Ev MX7_held bv_X0 1 74 74 (bv_QP z mi) 0 [some (.int l0), some (.int l1), some (.int l2)] [] 74 (bv_mr mi) mi := by
  unfold f_X7_held at h
  refine ev_iload_n dX7_held_0 rfl ?_
  refine ev_iload_n dX7_held_1 rfl ?_
  refine ev_iload_n dX7_held_2 rfl ?_
  refine er_min dX7_held_3 lm_X7_300 rfl rfl ?_
  refine er_max dX7_held_6 lm_X7_305 rfl rfl ?_
  obtain rfl := Option.some.inj h
  exact ev_iret rfl dX7_held_9 ⟨rfl, rfl, rfl⟩
theorem wm_X7_held   (l0 : Int32) (l1 : Int32) (l2 : Int32) (mi : bv_Mem) (z : Int32) (h : f_X7_held  l0 l1 l2 mi = some z) : bv_Met yX7_held MX7_held bv_X0 1 74 74 [.int l0, .int l1, .int l2] (bv_mr mi) mi (bv_QP z mi) :=
  bv_Met.of (pn_X 7 (by decide)) rfl (fun q => absurd q Bool.false_ne_true) (Nat.le_of_ble_eq_true rfl) (we_X7_held   l0 l1 l2 mi z h)
set_option maxRecDepth 100000 in
set_option maxHeartbeats 4000000 in
theorem we_X2_step    (mi : bv_Mem) (z : bv_Mem) (h : f_X2_step  mi = some z) : bv_Ev MX2_step bv_X0 0 74 74 (bv_QV z) 0 [some (.ref 43)] [] 74 (bv_mr mi) mi := by
  unfold f_X2_step at h
  refine ev_aload_n dX2_step_0 rfl ?_
  refine ev_dup dX2_step_1 rfl ?_
  refine ev_getI lf_X2_26 dX2_step_2 rfl rfl ?_
  refine ev_iconst (1 : Int32) dX2_step_5 (by decide) ?_
  refine ev_iadd dX2_step_6 ?_
  refine er_putI lf_X2_26 dX2_step_7 rfl rfl rfl rfl ?_
  refine ev_aload_n dX2_step_10 rfl ?_
  refine ev_aload_n dX2_step_11 rfl ?_
  refine ev_getI lf_X2_26 dX2_step_12 rfl rfl ?_
  refine ev_aload_n dX2_step_15 rfl ?_
  refine ev_getR (((bv_up mi 43 3 ((mi 43 3) + (1 : Int32))) 43 0).toNatClampNeg) lf_X2_12 dX2_step_16 rfl rfl rfl ?_
  obtain ⟨g1, h⟩ := bv_gd h
  refine ev_getI lf_X2_46 dX2_step_19 g1 rfl ?_
  refine ev_icmp_ge 44 dX2_step_22 (by decide) (fun c1 => ?_) (fun c1 => ?_)
  · replace h := bv_tt c1 h
    refine ev_iconst (-1 : Int32) dX2_step_44 (by decide) ?_
    refine er_putI lf_X2_29 dX2_step_45 rfl rfl rfl rfl ?_
    obtain rfl := Option.some.inj h
    exact ev_vret rfl dX2_step_48 ⟨rfl, rfl, rfl⟩
  · replace h := bv_ff c1 h
    refine ev_aload_n dX2_step_25 rfl ?_
    refine ev_getR (((bv_up mi 43 3 ((mi 43 3) + (1 : Int32))) 43 0).toNatClampNeg) lf_X2_12 dX2_step_26 rfl rfl rfl ?_
    obtain ⟨q1, hq1, h⟩ := bv_bd h
    refine er_getRq q1 lf_X2_52 dX2_step_29 g1 rfl rfl hq1 ?_
    refine ev_aload_n dX2_step_32 rfl ?_
    refine ev_getI lf_X2_26 dX2_step_33 rfl rfl ?_
    obtain ⟨g2, h⟩ := bv_gd h
    obtain ⟨g3, h⟩ := bv_gd h
    refine ev_bald (N := (bv_len q1)) dX2_step_36 g2 g3 ?_
    refine ev_sipush (255 : Int32) dX2_step_37 (by decide) ?_
    refine ev_iand dX2_step_40 ?_
    refine ev_goto 45 dX2_step_41 (by decide) ?_
    refine er_putI lf_X2_29 dX2_step_45 rfl rfl rfl rfl ?_
    obtain rfl := Option.some.inj h
    exact ev_vret rfl dX2_step_48 ⟨rfl, rfl, rfl⟩
theorem wm_X2_step    (mi : bv_Mem) (z : bv_Mem) (h : f_X2_step  mi = some z) : bv_Met yX2_step MX2_step bv_X0 0 74 74 [.ref 43] (bv_mr mi) mi (bv_QV z) :=
  bv_Met.of (pn_X 2 (by decide)) rfl (fun q => absurd q Bool.false_ne_true) (Nat.le_of_ble_eq_true rfl) (we_X2_step   mi z h)
set_option maxRecDepth 100000 in
set_option maxHeartbeats 4000000 in
theorem we_X7_quotient   (l0 : Int32) (l1 : Int32) (mi : bv_Mem) (z : Int32) (h : f_X7_quotient  l0 l1 mi = some z) : bv_Ev MX7_quotient bv_X0 0 74 74 (bv_QP z mi) 0 [some (.int l0), some (.int l1)] [] 74 (bv_mr mi) mi := by
  unfold f_X7_quotient at h
  refine ev_iload_n dX7_quotient_0 rfl ?_
  refine ev_if_ne 8 dX7_quotient_1 (by decide) (fun c1 => ?_) (fun c1 => ?_)
  · replace h := bv_ff c1 h
    refine ev_iload_n dX7_quotient_8 rfl ?_
    refine ev_iload_n dX7_quotient_9 rfl ?_
    obtain ⟨g1, h⟩ := bv_gd h
    refine ev_idiv dX7_quotient_10 g1 ?_
    obtain rfl := Option.some.inj h
    exact ev_iret rfl dX7_quotient_11 ⟨rfl, rfl, rfl⟩
  · replace h := bv_tt c1 h
    refine ev_iconst (0 : Int32) dX7_quotient_4 (by decide) ?_
    refine ev_goto 11 dX7_quotient_5 (by decide) ?_
    obtain rfl := Option.some.inj h
    exact ev_iret rfl dX7_quotient_11 ⟨rfl, rfl, rfl⟩
theorem wm_X7_quotient   (l0 : Int32) (l1 : Int32) (mi : bv_Mem) (z : Int32) (h : f_X7_quotient  l0 l1 mi = some z) : bv_Met yX7_quotient MX7_quotient bv_X0 0 74 74 [.int l0, .int l1] (bv_mr mi) mi (bv_QP z mi) :=
  bv_Met.of (pn_X 7 (by decide)) rfl (fun q => absurd q Bool.false_ne_true) (Nat.le_of_ble_eq_true rfl) (we_X7_quotient   l0 l1 mi z h)
set_option maxRecDepth 100000 in
set_option maxHeartbeats 4000000 in
theorem we_X2_joined   (l0 : Int32) (l1 : Int32) (l2 : Int32) (mi : bv_Mem) (z : Int32) (h : f_X2_joined  l0 l1 l2 mi = some z) : bv_Ev MX2_joined bv_X0 1 74 74 (bv_QP z mi) 0 [some (.int l0), some (.int l1), some (.int l2)] [] 74 (bv_mr mi) mi := by
  unfold f_X2_joined at h
  refine ev_iload_n dX2_joined_0 rfl ?_
  by_cases c1 : l1 = (38 : Int32)
  · replace h := bv_tt c1 h
    refine ev_lookup (97) 98 dX2_joined_1 (by decide) (by rw [c1]; decide) (by decide) ?_
    refine ev_iload_n dX2_joined_98 rfl ?_
    refine ev_if_eq 110 dX2_joined_99 (by decide) (fun c2 => ?_) (fun c2 => ?_)
    · replace h := bv_tt c2 h
      refine ev_iconst (0 : Int32) dX2_joined_110 (by decide) ?_
      obtain rfl := Option.some.inj h
      exact ev_iret rfl dX2_joined_111 ⟨rfl, rfl, rfl⟩
    · replace h := bv_ff c2 h
      refine ev_iload_n dX2_joined_102 rfl ?_
      refine ev_if_eq 110 dX2_joined_103 (by decide) (fun c3 => ?_) (fun c3 => ?_)
      · replace h := bv_tt c3 h
        refine ev_iconst (0 : Int32) dX2_joined_110 (by decide) ?_
        obtain rfl := Option.some.inj h
        exact ev_iret rfl dX2_joined_111 ⟨rfl, rfl, rfl⟩
      · replace h := bv_ff c3 h
        refine ev_iconst (1 : Int32) dX2_joined_106 (by decide) ?_
        refine ev_goto 111 dX2_joined_107 (by decide) ?_
        obtain rfl := Option.some.inj h
        exact ev_iret rfl dX2_joined_111 ⟨rfl, rfl, rfl⟩
  replace h := bv_ff c1 h
  by_cases c4 : l1 = (42 : Int32)
  · replace h := bv_tt c4 h
    refine ev_lookup (152) 153 dX2_joined_1 (by decide) (by rw [c4]; decide) (by decide) ?_
    refine ev_iload_n dX2_joined_153 rfl ?_
    refine ev_iload_n dX2_joined_154 rfl ?_
    refine ev_imul dX2_joined_155 ?_
    obtain rfl := Option.some.inj h
    exact ev_iret rfl dX2_joined_156 ⟨rfl, rfl, rfl⟩
  replace h := bv_ff c4 h
  by_cases c5 : l1 = (43 : Int32)
  · replace h := bv_tt c5 h
    refine ev_lookup (144) 145 dX2_joined_1 (by decide) (by rw [c5]; decide) (by decide) ?_
    refine ev_iload_n dX2_joined_145 rfl ?_
    refine ev_iload_n dX2_joined_146 rfl ?_
    refine ev_iadd dX2_joined_147 ?_
    obtain rfl := Option.some.inj h
    exact ev_iret rfl dX2_joined_148 ⟨rfl, rfl, rfl⟩
  replace h := bv_ff c5 h
  by_cases c6 : l1 = (45 : Int32)
  · replace h := bv_tt c6 h
    refine ev_lookup (148) 149 dX2_joined_1 (by decide) (by rw [c6]; decide) (by decide) ?_
    refine ev_iload_n dX2_joined_149 rfl ?_
    refine ev_iload_n dX2_joined_150 rfl ?_
    refine ev_isub dX2_joined_151 ?_
    obtain rfl := Option.some.inj h
    exact ev_iret rfl dX2_joined_152 ⟨rfl, rfl, rfl⟩
  replace h := bv_ff c6 h
  by_cases c7 : l1 = (47 : Int32)
  · replace h := bv_tt c7 h
    refine ev_lookup (156) 157 dX2_joined_1 (by decide) (by rw [c7]; decide) (by decide) ?_
    refine ev_iload_n dX2_joined_157 rfl ?_
    refine ev_iload_n dX2_joined_158 rfl ?_
    obtain ⟨z1, hz1, h⟩ := bv_bd h
    refine er_SNP [.int _, .int _] (fun _ _ q => q) lk_X2_71 dX2_joined_159 rfl rfl rfl rfl (wm_X7_quotient _ _ _ _ hz1) ?_
    obtain rfl := Option.some.inj h
    exact ev_iret rfl dX2_joined_162 ⟨rfl, rfl, rfl⟩
  replace h := bv_ff c7 h
  by_cases c8 : l1 = (60 : Int32)
  · replace h := bv_tt c8 h
    refine ev_lookup (111) 112 dX2_joined_1 (by decide) (by rw [c8]; decide) (by decide) ?_
    refine ev_iload_n dX2_joined_112 rfl ?_
    refine ev_iload_n dX2_joined_113 rfl ?_
    refine ev_icmp_ge 121 dX2_joined_114 (by decide) (fun c9 => ?_) (fun c9 => ?_)
    · replace h := bv_tt c9 h
      refine ev_iconst (0 : Int32) dX2_joined_121 (by decide) ?_
      obtain rfl := Option.some.inj h
      exact ev_iret rfl dX2_joined_122 ⟨rfl, rfl, rfl⟩
    · replace h := bv_ff c9 h
      refine ev_iconst (1 : Int32) dX2_joined_117 (by decide) ?_
      refine ev_goto 122 dX2_joined_118 (by decide) ?_
      obtain rfl := Option.some.inj h
      exact ev_iret rfl dX2_joined_122 ⟨rfl, rfl, rfl⟩
  replace h := bv_ff c8 h
  by_cases c10 : l1 = (61 : Int32)
  · replace h := bv_tt c10 h
    refine ev_lookup (122) 123 dX2_joined_1 (by decide) (by rw [c10]; decide) (by decide) ?_
    refine ev_iload_n dX2_joined_123 rfl ?_
    refine ev_iload_n dX2_joined_124 rfl ?_
    refine ev_icmp_ne 132 dX2_joined_125 (by decide) (fun c11 => ?_) (fun c11 => ?_)
    · replace h := bv_ff c11 h
      refine ev_iconst (0 : Int32) dX2_joined_132 (by decide) ?_
      obtain rfl := Option.some.inj h
      exact ev_iret rfl dX2_joined_133 ⟨rfl, rfl, rfl⟩
    · replace h := bv_tt c11 h
      refine ev_iconst (1 : Int32) dX2_joined_128 (by decide) ?_
      refine ev_goto 133 dX2_joined_129 (by decide) ?_
      obtain rfl := Option.some.inj h
      exact ev_iret rfl dX2_joined_133 ⟨rfl, rfl, rfl⟩
  replace h := bv_ff c10 h
  by_cases c12 : l1 = (62 : Int32)
  · replace h := bv_tt c12 h
    refine ev_lookup (133) 134 dX2_joined_1 (by decide) (by rw [c12]; decide) (by decide) ?_
    refine ev_iload_n dX2_joined_134 rfl ?_
    refine ev_iload_n dX2_joined_135 rfl ?_
    refine ev_icmp_le 143 dX2_joined_136 (by decide) (fun c13 => ?_) (fun c13 => ?_)
    · replace h := bv_tt c13 h
      refine ev_iconst (0 : Int32) dX2_joined_143 (by decide) ?_
      obtain rfl := Option.some.inj h
      exact ev_iret rfl dX2_joined_144 ⟨rfl, rfl, rfl⟩
    · replace h := bv_ff c13 h
      refine ev_iconst (1 : Int32) dX2_joined_139 (by decide) ?_
      refine ev_goto 144 dX2_joined_140 (by decide) ?_
      obtain rfl := Option.some.inj h
      exact ev_iret rfl dX2_joined_144 ⟨rfl, rfl, rfl⟩
  replace h := bv_ff c12 h
  by_cases c14 : l1 = (124 : Int32)
  · replace h := bv_tt c14 h
    refine ev_lookup (83) 84 dX2_joined_1 (by decide) (by rw [c14]; decide) (by decide) ?_
    refine ev_iload_n dX2_joined_84 rfl ?_
    refine ev_if_ne 92 dX2_joined_85 (by decide) (fun c15 => ?_) (fun c15 => ?_)
    · replace h := bv_ff c15 h
      refine ev_iconst (1 : Int32) dX2_joined_92 (by decide) ?_
      refine ev_goto 97 dX2_joined_93 (by decide) ?_
      obtain rfl := Option.some.inj h
      exact ev_iret rfl dX2_joined_97 ⟨rfl, rfl, rfl⟩
    · replace h := bv_tt c15 h
      refine ev_iload_n dX2_joined_88 rfl ?_
      refine ev_if_eq 96 dX2_joined_89 (by decide) (fun c16 => ?_) (fun c16 => ?_)
      · replace h := bv_tt c16 h
        refine ev_iconst (0 : Int32) dX2_joined_96 (by decide) ?_
        obtain rfl := Option.some.inj h
        exact ev_iret rfl dX2_joined_97 ⟨rfl, rfl, rfl⟩
      · replace h := bv_ff c16 h
        refine ev_iconst (1 : Int32) dX2_joined_92 (by decide) ?_
        refine ev_goto 97 dX2_joined_93 (by decide) ?_
        obtain rfl := Option.some.inj h
        exact ev_iret rfl dX2_joined_97 ⟨rfl, rfl, rfl⟩
  replace h := bv_ff c14 h
  refine ev_lookup (162) 163 dX2_joined_1 (by decide) (bv_lo (List.forall_mem_cons.mpr ⟨bv_ne c1 (by decide), List.forall_mem_cons.mpr ⟨bv_ne c4 (by decide), List.forall_mem_cons.mpr ⟨bv_ne c5 (by decide), List.forall_mem_cons.mpr ⟨bv_ne c6 (by decide), List.forall_mem_cons.mpr ⟨bv_ne c7 (by decide), List.forall_mem_cons.mpr ⟨bv_ne c8 (by decide), List.forall_mem_cons.mpr ⟨bv_ne c10 (by decide), List.forall_mem_cons.mpr ⟨bv_ne c12 (by decide), List.forall_mem_cons.mpr ⟨bv_ne c14 (by decide), fun _ q => absurd q List.not_mem_nil⟩⟩⟩⟩⟩⟩⟩⟩⟩)) (by decide) ?_
  refine ev_iload_n dX2_joined_163 rfl ?_
  refine ev_if_ne 171 dX2_joined_164 (by decide) (fun c17 => ?_) (fun c17 => ?_)
  · replace h := bv_ff c17 h
    refine ev_iload_n dX2_joined_171 rfl ?_
    refine ev_iload_n dX2_joined_172 rfl ?_
    obtain ⟨g1, h⟩ := bv_gd h
    refine ev_irem dX2_joined_173 g1 ?_
    obtain rfl := Option.some.inj h
    exact ev_iret rfl dX2_joined_174 ⟨rfl, rfl, rfl⟩
  · replace h := bv_tt c17 h
    refine ev_iconst (0 : Int32) dX2_joined_167 (by decide) ?_
    refine ev_goto 174 dX2_joined_168 (by decide) ?_
    obtain rfl := Option.some.inj h
    exact ev_iret rfl dX2_joined_174 ⟨rfl, rfl, rfl⟩
theorem wm_X2_joined   (l0 : Int32) (l1 : Int32) (l2 : Int32) (mi : bv_Mem) (z : Int32) (h : f_X2_joined  l0 l1 l2 mi = some z) : bv_Met yX2_joined MX2_joined bv_X0 1 74 74 [.int l0, .int l1, .int l2] (bv_mr mi) mi (bv_QP z mi) :=
  bv_Met.of (pn_X 2 (by decide)) rfl (fun q => absurd q Bool.false_ne_true) (Nat.le_of_ble_eq_true rfl) (we_X2_joined   l0 l1 l2 mi z h)
set_option maxRecDepth 100000 in
set_option maxHeartbeats 4000000 in
theorem we_X2_levelOf   (l0 : Int32) (mi : bv_Mem) (z : Int32) (h : f_X2_levelOf  l0 mi = some z) : bv_Ev MX2_levelOf bv_X0 0 74 74 (bv_QP z mi) 0 [some (.int l0)] [] 74 (bv_mr mi) mi := by
  unfold f_X2_levelOf at h
  refine ev_iload_n dX2_levelOf_0 rfl ?_
  by_cases c1 : l0 = (37 : Int32)
  · replace h := bv_tt c1 h
    refine ev_lookup (99) 100 dX2_levelOf_1 (by decide) (by rw [c1]; decide) (by decide) ?_
    refine ev_iconst (4 : Int32) dX2_levelOf_100 (by decide) ?_
    obtain rfl := Option.some.inj h
    exact ev_iret rfl dX2_levelOf_101 ⟨rfl, rfl, rfl⟩
  replace h := bv_ff c1 h
  by_cases c2 : l0 = (38 : Int32)
  · replace h := bv_tt c2 h
    refine ev_lookup (93) 94 dX2_levelOf_1 (by decide) (by rw [c2]; decide) (by decide) ?_
    refine ev_iconst (1 : Int32) dX2_levelOf_94 (by decide) ?_
    obtain rfl := Option.some.inj h
    exact ev_iret rfl dX2_levelOf_95 ⟨rfl, rfl, rfl⟩
  replace h := bv_ff c2 h
  by_cases c3 : l0 = (42 : Int32)
  · replace h := bv_tt c3 h
    refine ev_lookup (99) 100 dX2_levelOf_1 (by decide) (by rw [c3]; decide) (by decide) ?_
    refine ev_iconst (4 : Int32) dX2_levelOf_100 (by decide) ?_
    obtain rfl := Option.some.inj h
    exact ev_iret rfl dX2_levelOf_101 ⟨rfl, rfl, rfl⟩
  replace h := bv_ff c3 h
  by_cases c4 : l0 = (43 : Int32)
  · replace h := bv_tt c4 h
    refine ev_lookup (97) 98 dX2_levelOf_1 (by decide) (by rw [c4]; decide) (by decide) ?_
    refine ev_iconst (3 : Int32) dX2_levelOf_98 (by decide) ?_
    obtain rfl := Option.some.inj h
    exact ev_iret rfl dX2_levelOf_99 ⟨rfl, rfl, rfl⟩
  replace h := bv_ff c4 h
  by_cases c5 : l0 = (45 : Int32)
  · replace h := bv_tt c5 h
    refine ev_lookup (97) 98 dX2_levelOf_1 (by decide) (by rw [c5]; decide) (by decide) ?_
    refine ev_iconst (3 : Int32) dX2_levelOf_98 (by decide) ?_
    obtain rfl := Option.some.inj h
    exact ev_iret rfl dX2_levelOf_99 ⟨rfl, rfl, rfl⟩
  replace h := bv_ff c5 h
  by_cases c6 : l0 = (47 : Int32)
  · replace h := bv_tt c6 h
    refine ev_lookup (99) 100 dX2_levelOf_1 (by decide) (by rw [c6]; decide) (by decide) ?_
    refine ev_iconst (4 : Int32) dX2_levelOf_100 (by decide) ?_
    obtain rfl := Option.some.inj h
    exact ev_iret rfl dX2_levelOf_101 ⟨rfl, rfl, rfl⟩
  replace h := bv_ff c6 h
  by_cases c7 : l0 = (60 : Int32)
  · replace h := bv_tt c7 h
    refine ev_lookup (95) 96 dX2_levelOf_1 (by decide) (by rw [c7]; decide) (by decide) ?_
    refine ev_iconst (2 : Int32) dX2_levelOf_96 (by decide) ?_
    obtain rfl := Option.some.inj h
    exact ev_iret rfl dX2_levelOf_97 ⟨rfl, rfl, rfl⟩
  replace h := bv_ff c7 h
  by_cases c8 : l0 = (61 : Int32)
  · replace h := bv_tt c8 h
    refine ev_lookup (95) 96 dX2_levelOf_1 (by decide) (by rw [c8]; decide) (by decide) ?_
    refine ev_iconst (2 : Int32) dX2_levelOf_96 (by decide) ?_
    obtain rfl := Option.some.inj h
    exact ev_iret rfl dX2_levelOf_97 ⟨rfl, rfl, rfl⟩
  replace h := bv_ff c8 h
  by_cases c9 : l0 = (62 : Int32)
  · replace h := bv_tt c9 h
    refine ev_lookup (95) 96 dX2_levelOf_1 (by decide) (by rw [c9]; decide) (by decide) ?_
    refine ev_iconst (2 : Int32) dX2_levelOf_96 (by decide) ?_
    obtain rfl := Option.some.inj h
    exact ev_iret rfl dX2_levelOf_97 ⟨rfl, rfl, rfl⟩
  replace h := bv_ff c9 h
  by_cases c10 : l0 = (124 : Int32)
  · replace h := bv_tt c10 h
    refine ev_lookup (91) 92 dX2_levelOf_1 (by decide) (by rw [c10]; decide) (by decide) ?_
    refine ev_iconst (0 : Int32) dX2_levelOf_92 (by decide) ?_
    obtain rfl := Option.some.inj h
    exact ev_iret rfl dX2_levelOf_93 ⟨rfl, rfl, rfl⟩
  replace h := bv_ff c10 h
  refine ev_lookup (101) 102 dX2_levelOf_1 (by decide) (bv_lo (List.forall_mem_cons.mpr ⟨bv_ne c1 (by decide), List.forall_mem_cons.mpr ⟨bv_ne c2 (by decide), List.forall_mem_cons.mpr ⟨bv_ne c3 (by decide), List.forall_mem_cons.mpr ⟨bv_ne c4 (by decide), List.forall_mem_cons.mpr ⟨bv_ne c5 (by decide), List.forall_mem_cons.mpr ⟨bv_ne c6 (by decide), List.forall_mem_cons.mpr ⟨bv_ne c7 (by decide), List.forall_mem_cons.mpr ⟨bv_ne c8 (by decide), List.forall_mem_cons.mpr ⟨bv_ne c9 (by decide), List.forall_mem_cons.mpr ⟨bv_ne c10 (by decide), fun _ q => absurd q List.not_mem_nil⟩⟩⟩⟩⟩⟩⟩⟩⟩⟩)) (by decide) ?_
  refine ev_iconst (-1 : Int32) dX2_levelOf_102 (by decide) ?_
  obtain rfl := Option.some.inj h
  exact ev_iret rfl dX2_levelOf_103 ⟨rfl, rfl, rfl⟩
theorem wm_X2_levelOf   (l0 : Int32) (mi : bv_Mem) (z : Int32) (h : f_X2_levelOf  l0 mi = some z) : bv_Met yX2_levelOf MX2_levelOf bv_X0 0 74 74 [.int l0] (bv_mr mi) mi (bv_QP z mi) :=
  bv_Met.of (pn_X 2 (by decide)) rfl (fun q => absurd q Bool.false_ne_true) (Nat.le_of_ble_eq_true rfl) (we_X2_levelOf   l0 mi z h)
set_option maxRecDepth 100000 in
set_option maxHeartbeats 4000000 in
theorem wb_X2_readJoined_97 (r_X2_readJoined : Int32 → Int32 → bv_Mem → Option (Int32 × bv_Mem)) (r_X2_readSingle : Int32 → bv_Mem → Option (Int32 × bv_Mem)) (d : Nat) (hb : 2 ≤ d) (hr_X2_readJoined : ∀ (l1 : Int32) (l2 : Int32) (mi : bv_Mem) (z : Int32 × bv_Mem), r_X2_readJoined l1 l2 mi = some z → bv_Met yX2_readJoined MX2_readJoined bv_X0 d 74 74 [.ref 43, .int l1, .int l2] (bv_mr mi) mi (bv_QI z)) (hr_X2_readSingle : ∀ (l1 : Int32) (mi : bv_Mem) (z : Int32 × bv_Mem), r_X2_readSingle l1 mi = some z → bv_Met yX2_readSingle MX2_readSingle bv_X0 d 74 74 [.ref 43, .int l1] (bv_mr mi) mi (bv_QI z)) (k_49 : Int32 → Int32 → Int32 → Int32 → Int32 → Int32 → bv_Mem → Option (Int32 × bv_Mem)) (hk_49 : ∀ (l1 : Int32) (l2 : Int32) (l3 : Int32) (l4 : Int32) (l5 : Int32) (l6 : Int32) (mi : bv_Mem) (z : Int32 × bv_Mem), k_49 l1 l2 l3 l4 l5 l6 mi = some z → bv_Ev MX2_readJoined bv_X0 (d + 1) 74 74 (bv_QI z) 49 [some (.ref 43), some (.int l1), some (.int l2), some (.int l3), some (.int l4), some (.int l5), some (.int l6), none, none] [] 74 (bv_mr mi) mi) (l1 : Int32) (l2 : Int32) (l3 : Int32) (l4 : Int32) (l5 : Int32) (l6 : Int32) (l7 : Int32) (s0 : Int32) (mi : bv_Mem) (z : Int32 × bv_Mem) (h : b_X2_readJoined_97 r_X2_readJoined r_X2_readSingle k_49 l1 l2 l3 l4 l5 l6 l7 s0 mi = some z) : bv_Ev MX2_readJoined bv_X0 (d + 1) 74 74 (bv_QI z) 97 [some (.ref 43), some (.int l1), some (.int l2), some (.int l3), some (.int l4), some (.int l5), some (.int l6), some (.int l7), none] [.int s0] 74 (bv_mr mi) mi := by
  unfold b_X2_readJoined_97 at h
  refine ev_istore dX2_readJoined_97 rfl rfl ?_
  refine ev_iload dX2_readJoined_99 rfl ?_
  refine ev_iload dX2_readJoined_101 rfl ?_
  refine ev_iload dX2_readJoined_103 rfl ?_
  obtain ⟨z1, hz1, h⟩ := bv_bd h
  refine er_SP [.int _, .int _, .int _] (fun _ _ q => q) lk_X2_63 dX2_readJoined_105 rfl rfl (Nat.ble_eq.mpr (by omega)) rfl (wm_X2_joined _ _ _ _ _ hz1) ?_
  refine ev_istore dX2_readJoined_108 rfl rfl ?_
  refine ev_iinc (l6 + 1) dX2_readJoined_110 rfl rfl rfl rfl ?_
  refine ev_goto 49 dX2_readJoined_113 (by decide) ?_
  exact ev_weak (by exact And.intro rfl (And.intro rfl (And.intro rfl (And.intro rfl (And.intro rfl (And.intro rfl (And.intro rfl (trivial)))))))) (hk_49 _ _ _ _ _ _ _ _ h)
set_option maxRecDepth 100000 in
set_option maxHeartbeats 4000000 in
theorem wb_X2_readJoined_49 (r_X2_readJoined : Int32 → Int32 → bv_Mem → Option (Int32 × bv_Mem)) (r_X2_readSingle : Int32 → bv_Mem → Option (Int32 × bv_Mem)) (d : Nat) (hb : 2 ≤ d) (hr_X2_readJoined : ∀ (l1 : Int32) (l2 : Int32) (mi : bv_Mem) (z : Int32 × bv_Mem), r_X2_readJoined l1 l2 mi = some z → bv_Met yX2_readJoined MX2_readJoined bv_X0 d 74 74 [.ref 43, .int l1, .int l2] (bv_mr mi) mi (bv_QI z)) (hr_X2_readSingle : ∀ (l1 : Int32) (mi : bv_Mem) (z : Int32 × bv_Mem), r_X2_readSingle l1 mi = some z → bv_Met yX2_readSingle MX2_readSingle bv_X0 d 74 74 [.ref 43, .int l1] (bv_mr mi) mi (bv_QI z)) : ∀ (fu : Nat) (l1 : Int32) (l2 : Int32) (l3 : Int32) (l4 : Int32) (l5 : Int32) (l6 : Int32) (mi : bv_Mem) (z : Int32 × bv_Mem), b_X2_readJoined_49 r_X2_readJoined r_X2_readSingle fu l1 l2 l3 l4 l5 l6 mi = some z → bv_Ev MX2_readJoined bv_X0 (d + 1) 74 74 (bv_QI z) 49 [some (.ref 43), some (.int l1), some (.int l2), some (.int l3), some (.int l4), some (.int l5), some (.int l6), none, none] [] 74 (bv_mr mi) mi := by
  intro fu
  induction fu with
  | zero =>
    intro l1 l2 l3 l4 l5 l6 mi z h
    rw [b_X2_readJoined_49] at h
    cases h
  | succ fu ih =>
    intro l1 l2 l3 l4 l5 l6 mi z h
    rw [b_X2_readJoined_49] at h
    refine ev_iload dX2_readJoined_49 rfl ?_
    refine ev_iload dX2_readJoined_51 rfl ?_
    refine ev_icmp_ge 116 dX2_readJoined_53 (by decide) (fun c1 => ?_) (fun c1 => ?_)
    · replace h := bv_tt c1 h
      refine ev_iload dX2_readJoined_116 rfl ?_
      obtain rfl := Option.some.inj h
      exact ev_iret rfl dX2_readJoined_118 ⟨rfl, rfl, rfl⟩
    · replace h := bv_ff c1 h
      refine ev_aload_n dX2_readJoined_56 rfl ?_
      refine ev_getI lf_X2_29 dX2_readJoined_57 rfl rfl ?_
      obtain ⟨z1, hz1, h⟩ := bv_bd h
      refine er_SP [.int _] (fun _ _ q => q) lk_X2_60 dX2_readJoined_60 rfl rfl (Nat.ble_eq.mpr (by omega)) rfl (wm_X2_levelOf _ _ _ hz1) ?_
      refine ev_iload_n dX2_readJoined_63 rfl ?_
      refine ev_icmp_ne 116 dX2_readJoined_64 (by decide) (fun c2 => ?_) (fun c2 => ?_)
      · replace h := bv_ff c2 h
        refine ev_iload dX2_readJoined_116 rfl ?_
        obtain rfl := Option.some.inj h
        exact ev_iret rfl dX2_readJoined_118 ⟨rfl, rfl, rfl⟩
      · replace h := bv_tt c2 h
        refine ev_aload_n dX2_readJoined_67 rfl ?_
        refine ev_getI lf_X2_29 dX2_readJoined_68 rfl rfl ?_
        refine ev_istore dX2_readJoined_71 rfl rfl ?_
        refine ev_aload_n dX2_readJoined_73 rfl ?_
        obtain ⟨z2, hz2, h⟩ := bv_bd h
        refine er_VV [] (fun _ _ q => q) lk_X2_39 dX2_readJoined_74 rfl rfl rfl (Nat.ble_eq.mpr (by omega)) rfl (wm_X2_step  _ _ hz2) ?_
        refine ev_iload_n dX2_readJoined_77 rfl ?_
        refine ev_if_eq 89 dX2_readJoined_78 (by decide) (fun c3 => ?_) (fun c3 => ?_)
        · replace h := bv_tt c3 h
          refine ev_aload_n dX2_readJoined_89 rfl ?_
          refine ev_iload_n dX2_readJoined_90 rfl ?_
          refine ev_iconst (1 : Int32) dX2_readJoined_91 (by decide) ?_
          refine ev_iadd dX2_readJoined_92 ?_
          refine ev_iload_n dX2_readJoined_93 rfl ?_
          obtain ⟨z3, hz3, h⟩ := bv_bd h
          refine er_VI [.int _, .int _] (fun _ _ q => q) lk_X2_42 dX2_readJoined_94 rfl rfl rfl (Nat.ble_eq.mpr (Nat.le_refl _)) rfl (hr_X2_readJoined _ _ _ _ hz3) ?_
          exact ev_weak (by exact And.intro rfl (And.intro rfl (And.intro rfl (And.intro rfl (And.intro rfl (And.intro rfl (And.intro rfl (And.intro rfl (trivial))))))))) (wb_X2_readJoined_97 r_X2_readJoined r_X2_readSingle d hb hr_X2_readJoined hr_X2_readSingle (b_X2_readJoined_49 r_X2_readJoined r_X2_readSingle fu) ih _ _ _ _ _ _ _ _ _ _ h)
        · replace h := bv_ff c3 h
          refine ev_aload_n dX2_readJoined_81 rfl ?_
          refine ev_iload_n dX2_readJoined_82 rfl ?_
          obtain ⟨z4, hz4, h⟩ := bv_bd h
          refine er_VI [.int _] (fun _ _ q => q) lk_X2_56 dX2_readJoined_83 rfl rfl rfl (Nat.ble_eq.mpr (Nat.le_refl _)) rfl (hr_X2_readSingle _ _ _ hz4) ?_
          refine ev_goto 97 dX2_readJoined_86 (by decide) ?_
          exact ev_weak (by exact And.intro rfl (And.intro rfl (And.intro rfl (And.intro rfl (And.intro rfl (And.intro rfl (And.intro rfl (And.intro rfl (trivial))))))))) (wb_X2_readJoined_97 r_X2_readJoined r_X2_readSingle d hb hr_X2_readJoined hr_X2_readSingle (b_X2_readJoined_49 r_X2_readJoined r_X2_readSingle fu) ih _ _ _ _ _ _ _ _ _ _ h)
set_option maxRecDepth 100000 in
set_option maxHeartbeats 4000000 in
theorem wb_X2_readJoined_31 (r_X2_readJoined : Int32 → Int32 → bv_Mem → Option (Int32 × bv_Mem)) (r_X2_readSingle : Int32 → bv_Mem → Option (Int32 × bv_Mem)) (d : Nat) (hb : 2 ≤ d) (hr_X2_readJoined : ∀ (l1 : Int32) (l2 : Int32) (mi : bv_Mem) (z : Int32 × bv_Mem), r_X2_readJoined l1 l2 mi = some z → bv_Met yX2_readJoined MX2_readJoined bv_X0 d 74 74 [.ref 43, .int l1, .int l2] (bv_mr mi) mi (bv_QI z)) (hr_X2_readSingle : ∀ (l1 : Int32) (mi : bv_Mem) (z : Int32 × bv_Mem), r_X2_readSingle l1 mi = some z → bv_Met yX2_readSingle MX2_readSingle bv_X0 d 74 74 [.ref 43, .int l1] (bv_mr mi) mi (bv_QI z)) (l1 : Int32) (l2 : Int32) (l3 : Int32) (s0 : Int32) (mi : bv_Mem) (z : Int32 × bv_Mem) (h : b_X2_readJoined_31 r_X2_readJoined r_X2_readSingle l1 l2 l3 s0 mi = some z) : bv_Ev MX2_readJoined bv_X0 (d + 1) 74 74 (bv_QI z) 31 [some (.ref 43), some (.int l1), some (.int l2), some (.int l3), none, none, none, none, none] [.int s0] 74 (bv_mr mi) mi := by
  unfold b_X2_readJoined_31 at h
  refine ev_istore dX2_readJoined_31 rfl rfl ?_
  refine ev_iload_n dX2_readJoined_33 rfl ?_
  refine ev_iconst (2 : Int32) dX2_readJoined_34 (by decide) ?_
  refine ev_icmp_ne 42 dX2_readJoined_35 (by decide) (fun c1 => ?_) (fun c1 => ?_)
  · replace h := bv_ff c1 h
    refine ev_bipush (50 : Int32) dX2_readJoined_42 (by decide) ?_
    refine ev_istore dX2_readJoined_44 rfl rfl ?_
    refine ev_iconst (0 : Int32) dX2_readJoined_46 (by decide) ?_
    refine ev_istore dX2_readJoined_47 rfl rfl ?_
    exact ev_weak (by exact And.intro rfl (And.intro rfl (And.intro rfl (And.intro rfl (And.intro rfl (And.intro rfl (And.intro rfl (trivial)))))))) (wb_X2_readJoined_49 r_X2_readJoined r_X2_readSingle d hb hr_X2_readJoined hr_X2_readSingle 400 _ _ _ _ _ _ _ _ h)
  · replace h := bv_tt c1 h
    refine ev_iconst (1 : Int32) dX2_readJoined_38 (by decide) ?_
    refine ev_goto 44 dX2_readJoined_39 (by decide) ?_
    refine ev_istore dX2_readJoined_44 rfl rfl ?_
    refine ev_iconst (0 : Int32) dX2_readJoined_46 (by decide) ?_
    refine ev_istore dX2_readJoined_47 rfl rfl ?_
    exact ev_weak (by exact And.intro rfl (And.intro rfl (And.intro rfl (And.intro rfl (And.intro rfl (And.intro rfl (And.intro rfl (trivial)))))))) (wb_X2_readJoined_49 r_X2_readJoined r_X2_readSingle d hb hr_X2_readJoined hr_X2_readSingle 400 _ _ _ _ _ _ _ _ h)
set_option maxRecDepth 100000 in
set_option maxHeartbeats 4000000 in
theorem wb_X2_readJoined_10 (r_X2_readJoined : Int32 → Int32 → bv_Mem → Option (Int32 × bv_Mem)) (r_X2_readSingle : Int32 → bv_Mem → Option (Int32 × bv_Mem)) (d : Nat) (hb : 2 ≤ d) (hr_X2_readJoined : ∀ (l1 : Int32) (l2 : Int32) (mi : bv_Mem) (z : Int32 × bv_Mem), r_X2_readJoined l1 l2 mi = some z → bv_Met yX2_readJoined MX2_readJoined bv_X0 d 74 74 [.ref 43, .int l1, .int l2] (bv_mr mi) mi (bv_QI z)) (hr_X2_readSingle : ∀ (l1 : Int32) (mi : bv_Mem) (z : Int32 × bv_Mem), r_X2_readSingle l1 mi = some z → bv_Met yX2_readSingle MX2_readSingle bv_X0 d 74 74 [.ref 43, .int l1] (bv_mr mi) mi (bv_QI z)) (l1 : Int32) (l2 : Int32) (s0 : Int32) (mi : bv_Mem) (z : Int32 × bv_Mem) (h : b_X2_readJoined_10 r_X2_readJoined r_X2_readSingle l1 l2 s0 mi = some z) : bv_Ev MX2_readJoined bv_X0 (d + 1) 74 74 (bv_QI z) 10 [some (.ref 43), some (.int l1), some (.int l2), none, none, none, none, none, none] [.int s0] 74 (bv_mr mi) mi := by
  unfold b_X2_readJoined_10 at h
  refine ev_istore_n dX2_readJoined_10 rfl rfl ?_
  refine ev_iload_n dX2_readJoined_11 rfl ?_
  refine ev_if_eq 23 dX2_readJoined_12 (by decide) (fun c1 => ?_) (fun c1 => ?_)
  · replace h := bv_tt c1 h
    refine ev_aload_n dX2_readJoined_23 rfl ?_
    refine ev_iload_n dX2_readJoined_24 rfl ?_
    refine ev_iconst (1 : Int32) dX2_readJoined_25 (by decide) ?_
    refine ev_iadd dX2_readJoined_26 ?_
    refine ev_iload_n dX2_readJoined_27 rfl ?_
    obtain ⟨z1, hz1, h⟩ := bv_bd h
    refine er_VI [.int _, .int _] (fun _ _ q => q) lk_X2_42 dX2_readJoined_28 rfl rfl rfl (Nat.ble_eq.mpr (Nat.le_refl _)) rfl (hr_X2_readJoined _ _ _ _ hz1) ?_
    exact ev_weak (by exact And.intro rfl (And.intro rfl (And.intro rfl (And.intro rfl (trivial))))) (wb_X2_readJoined_31 r_X2_readJoined r_X2_readSingle d hb hr_X2_readJoined hr_X2_readSingle _ _ _ _ _ _ h)
  · replace h := bv_ff c1 h
    refine ev_aload_n dX2_readJoined_15 rfl ?_
    refine ev_iload_n dX2_readJoined_16 rfl ?_
    obtain ⟨z2, hz2, h⟩ := bv_bd h
    refine er_VI [.int _] (fun _ _ q => q) lk_X2_56 dX2_readJoined_17 rfl rfl rfl (Nat.ble_eq.mpr (Nat.le_refl _)) rfl (hr_X2_readSingle _ _ _ hz2) ?_
    refine ev_goto 31 dX2_readJoined_20 (by decide) ?_
    exact ev_weak (by exact And.intro rfl (And.intro rfl (And.intro rfl (And.intro rfl (trivial))))) (wb_X2_readJoined_31 r_X2_readJoined r_X2_readSingle d hb hr_X2_readJoined hr_X2_readSingle _ _ _ _ _ _ h)
set_option maxRecDepth 100000 in
set_option maxHeartbeats 4000000 in
theorem we_X2_readJoined (r_X2_readJoined : Int32 → Int32 → bv_Mem → Option (Int32 × bv_Mem)) (r_X2_readSingle : Int32 → bv_Mem → Option (Int32 × bv_Mem)) (d : Nat) (hb : 2 ≤ d) (hr_X2_readJoined : ∀ (l1 : Int32) (l2 : Int32) (mi : bv_Mem) (z : Int32 × bv_Mem), r_X2_readJoined l1 l2 mi = some z → bv_Met yX2_readJoined MX2_readJoined bv_X0 d 74 74 [.ref 43, .int l1, .int l2] (bv_mr mi) mi (bv_QI z)) (hr_X2_readSingle : ∀ (l1 : Int32) (mi : bv_Mem) (z : Int32 × bv_Mem), r_X2_readSingle l1 mi = some z → bv_Met yX2_readSingle MX2_readSingle bv_X0 d 74 74 [.ref 43, .int l1] (bv_mr mi) mi (bv_QI z)) (l1 : Int32) (l2 : Int32) (mi : bv_Mem) (z : Int32 × bv_Mem) (h : F_X2_readJoined r_X2_readJoined r_X2_readSingle l1 l2 mi = some z) : bv_Ev MX2_readJoined bv_X0 (d + 1) 74 74 (bv_QI z) 0 [some (.ref 43), some (.int l1), some (.int l2), none, none, none, none, none, none] [] 74 (bv_mr mi) mi := by
  unfold F_X2_readJoined at h
  refine ev_iload_n dX2_readJoined_0 rfl ?_
  refine ev_iconst (4 : Int32) dX2_readJoined_1 (by decide) ?_
  refine ev_icmp_lt 9 dX2_readJoined_2 (by decide) (fun c1 => ?_) (fun c1 => ?_)
  · replace h := bv_tt c1 h
    refine ev_iconst (0 : Int32) dX2_readJoined_9 (by decide) ?_
    exact ev_weak (by exact And.intro rfl (And.intro rfl (And.intro rfl (trivial)))) (wb_X2_readJoined_10 r_X2_readJoined r_X2_readSingle d hb hr_X2_readJoined hr_X2_readSingle _ _ _ _ _ h)
  · replace h := bv_ff c1 h
    refine ev_iconst (1 : Int32) dX2_readJoined_5 (by decide) ?_
    refine ev_goto 10 dX2_readJoined_6 (by decide) ?_
    exact ev_weak (by exact And.intro rfl (And.intro rfl (And.intro rfl (trivial)))) (wb_X2_readJoined_10 r_X2_readJoined r_X2_readSingle d hb hr_X2_readJoined hr_X2_readSingle _ _ _ _ _ h)
theorem wm_X2_readJoined (r_X2_readJoined : Int32 → Int32 → bv_Mem → Option (Int32 × bv_Mem)) (r_X2_readSingle : Int32 → bv_Mem → Option (Int32 × bv_Mem)) (d : Nat) (hb : 2 ≤ d) (hr_X2_readJoined : ∀ (l1 : Int32) (l2 : Int32) (mi : bv_Mem) (z : Int32 × bv_Mem), r_X2_readJoined l1 l2 mi = some z → bv_Met yX2_readJoined MX2_readJoined bv_X0 d 74 74 [.ref 43, .int l1, .int l2] (bv_mr mi) mi (bv_QI z)) (hr_X2_readSingle : ∀ (l1 : Int32) (mi : bv_Mem) (z : Int32 × bv_Mem), r_X2_readSingle l1 mi = some z → bv_Met yX2_readSingle MX2_readSingle bv_X0 d 74 74 [.ref 43, .int l1] (bv_mr mi) mi (bv_QI z)) (l1 : Int32) (l2 : Int32) (mi : bv_Mem) (z : Int32 × bv_Mem) (h : F_X2_readJoined r_X2_readJoined r_X2_readSingle l1 l2 mi = some z) : bv_Met yX2_readJoined MX2_readJoined bv_X0 (d + 1) 74 74 [.ref 43, .int l1, .int l2] (bv_mr mi) mi (bv_QI z) :=
  bv_Met.of (pn_X 2 (by decide)) rfl (fun q => absurd q Bool.false_ne_true) (Nat.le_of_ble_eq_true rfl) (we_X2_readJoined r_X2_readJoined r_X2_readSingle d hb hr_X2_readJoined hr_X2_readSingle l1 l2 mi z h)
set_option maxRecDepth 100000 in
set_option maxHeartbeats 4000000 in
theorem we_X2_refuse    (mi : bv_Mem) (z : bv_Mem) (h : f_X2_refuse  mi = some z) : bv_Ev MX2_refuse bv_X0 0 74 74 (bv_QV z) 0 [some (.ref 43)] [] 74 (bv_mr mi) mi := by
  unfold f_X2_refuse at h
  refine ev_aload_n dX2_refuse_0 rfl ?_
  refine ev_aload_n dX2_refuse_1 rfl ?_
  refine ev_getI lf_X2_26 dX2_refuse_2 rfl rfl ?_
  refine er_putI lf_X2_32 dX2_refuse_5 rfl rfl rfl rfl ?_
  refine ev_aload_n dX2_refuse_8 rfl ?_
  refine ev_iconst (-1 : Int32) dX2_refuse_9 (by decide) ?_
  refine er_putI lf_X2_29 dX2_refuse_10 rfl rfl rfl rfl ?_
  obtain rfl := Option.some.inj h
  exact ev_vret rfl dX2_refuse_13 ⟨rfl, rfl, rfl⟩
theorem wm_X2_refuse    (mi : bv_Mem) (z : bv_Mem) (h : f_X2_refuse  mi = some z) : bv_Met yX2_refuse MX2_refuse bv_X0 0 74 74 [.ref 43] (bv_mr mi) mi (bv_QV z) :=
  bv_Met.of (pn_X 2 (by decide)) rfl (fun q => absurd q Bool.false_ne_true) (Nat.le_of_ble_eq_true rfl) (we_X2_refuse   mi z h)
set_option maxRecDepth 100000 in
set_option maxHeartbeats 4000000 in
theorem wb_X2_readSingle_137 (r_X2_readJoined : Int32 → Int32 → bv_Mem → Option (Int32 × bv_Mem)) (r_X2_readSingle : Int32 → bv_Mem → Option (Int32 × bv_Mem)) (d : Nat) (hb : 2 ≤ d) (hr_X2_readJoined : ∀ (l1 : Int32) (l2 : Int32) (mi : bv_Mem) (z : Int32 × bv_Mem), r_X2_readJoined l1 l2 mi = some z → bv_Met yX2_readJoined MX2_readJoined bv_X0 d 74 74 [.ref 43, .int l1, .int l2] (bv_mr mi) mi (bv_QI z)) (hr_X2_readSingle : ∀ (l1 : Int32) (mi : bv_Mem) (z : Int32 × bv_Mem), r_X2_readSingle l1 mi = some z → bv_Met yX2_readSingle MX2_readSingle bv_X0 d 74 74 [.ref 43, .int l1] (bv_mr mi) mi (bv_QI z)) (l1 : Int32) (mi : bv_Mem) (z : Int32 × bv_Mem) (h : b_X2_readSingle_137 r_X2_readJoined r_X2_readSingle l1 mi = some z) : bv_Ev MX2_readSingle bv_X0 (d + 1) 74 74 (bv_QI z) 137 [some (.ref 43), some (.int l1), none, none, none] [] 74 (bv_mr mi) mi := by
  unfold b_X2_readSingle_137 at h
  refine ev_iload_n dX2_readSingle_137 rfl ?_
  refine ev_iconst (5 : Int32) dX2_readSingle_138 (by decide) ?_
  refine ev_icmp_ge 179 dX2_readSingle_139 (by decide) (fun c1 => ?_) (fun c1 => ?_)
  · replace h := bv_tt c1 h
    refine ev_aload_n dX2_readSingle_179 rfl ?_
    obtain ⟨z1, hz1, h⟩ := bv_bd h
    refine er_VV [] (fun _ _ q => q) lk_X2_49 dX2_readSingle_180 rfl rfl rfl (Nat.ble_eq.mpr (by omega)) rfl (wm_X2_refuse  _ _ hz1) ?_
    refine ev_iconst (0 : Int32) dX2_readSingle_183 (by decide) ?_
    obtain rfl := Option.some.inj h
    exact ev_iret rfl dX2_readSingle_184 ⟨rfl, rfl, rfl⟩
  · replace h := bv_ff c1 h
    refine ev_aload_n dX2_readSingle_142 rfl ?_
    refine ev_getI lf_X2_29 dX2_readSingle_143 rfl rfl ?_
    refine ev_bipush (40 : Int32) dX2_readSingle_146 (by decide) ?_
    refine ev_icmp_ne 179 dX2_readSingle_148 (by decide) (fun c2 => ?_) (fun c2 => ?_)
    · replace h := bv_ff c2 h
      refine ev_aload_n dX2_readSingle_179 rfl ?_
      obtain ⟨z2, hz2, h⟩ := bv_bd h
      refine er_VV [] (fun _ _ q => q) lk_X2_49 dX2_readSingle_180 rfl rfl rfl (Nat.ble_eq.mpr (by omega)) rfl (wm_X2_refuse  _ _ hz2) ?_
      refine ev_iconst (0 : Int32) dX2_readSingle_183 (by decide) ?_
      obtain rfl := Option.some.inj h
      exact ev_iret rfl dX2_readSingle_184 ⟨rfl, rfl, rfl⟩
    · replace h := bv_tt c2 h
      refine ev_aload_n dX2_readSingle_151 rfl ?_
      obtain ⟨z3, hz3, h⟩ := bv_bd h
      refine er_VV [] (fun _ _ q => q) lk_X2_39 dX2_readSingle_152 rfl rfl rfl (Nat.ble_eq.mpr (by omega)) rfl (wm_X2_step  _ _ hz3) ?_
      refine ev_aload_n dX2_readSingle_155 rfl ?_
      refine ev_iconst (0 : Int32) dX2_readSingle_156 (by decide) ?_
      refine ev_iload_n dX2_readSingle_157 rfl ?_
      refine ev_iconst (1 : Int32) dX2_readSingle_158 (by decide) ?_
      refine ev_iadd dX2_readSingle_159 ?_
      obtain ⟨z4, hz4, h⟩ := bv_bd h
      refine er_VI [.int _, .int _] (fun _ _ q => q) lk_X2_42 dX2_readSingle_160 rfl rfl rfl (Nat.ble_eq.mpr (Nat.le_refl _)) rfl (hr_X2_readJoined _ _ _ _ hz4) ?_
      refine ev_istore_n dX2_readSingle_163 rfl rfl ?_
      refine ev_aload_n dX2_readSingle_164 rfl ?_
      refine ev_getI lf_X2_29 dX2_readSingle_165 rfl rfl ?_
      refine ev_bipush (41 : Int32) dX2_readSingle_168 (by decide) ?_
      refine ev_icmp_ne 179 dX2_readSingle_170 (by decide) (fun c3 => ?_) (fun c3 => ?_)
      · replace h := bv_ff c3 h
        refine ev_aload_n dX2_readSingle_179 rfl ?_
        obtain ⟨z5, hz5, h⟩ := bv_bd h
        refine er_VV [] (fun _ _ q => q) lk_X2_49 dX2_readSingle_180 rfl rfl rfl (Nat.ble_eq.mpr (by omega)) rfl (wm_X2_refuse  _ _ hz5) ?_
        refine ev_iconst (0 : Int32) dX2_readSingle_183 (by decide) ?_
        obtain rfl := Option.some.inj h
        exact ev_iret rfl dX2_readSingle_184 ⟨rfl, rfl, rfl⟩
      · replace h := bv_tt c3 h
        refine ev_aload_n dX2_readSingle_173 rfl ?_
        obtain ⟨z6, hz6, h⟩ := bv_bd h
        refine er_VV [] (fun _ _ q => q) lk_X2_39 dX2_readSingle_174 rfl rfl rfl (Nat.ble_eq.mpr (by omega)) rfl (wm_X2_step  _ _ hz6) ?_
        refine ev_iload_n dX2_readSingle_177 rfl ?_
        obtain rfl := Option.some.inj h
        exact ev_iret rfl dX2_readSingle_178 ⟨rfl, rfl, rfl⟩
set_option maxRecDepth 100000 in
set_option maxHeartbeats 4000000 in
theorem wb_X2_readSingle_59 (r_X2_readJoined : Int32 → Int32 → bv_Mem → Option (Int32 × bv_Mem)) (r_X2_readSingle : Int32 → bv_Mem → Option (Int32 × bv_Mem)) (d : Nat) (hb : 2 ≤ d) (hr_X2_readJoined : ∀ (l1 : Int32) (l2 : Int32) (mi : bv_Mem) (z : Int32 × bv_Mem), r_X2_readJoined l1 l2 mi = some z → bv_Met yX2_readJoined MX2_readJoined bv_X0 d 74 74 [.ref 43, .int l1, .int l2] (bv_mr mi) mi (bv_QI z)) (hr_X2_readSingle : ∀ (l1 : Int32) (mi : bv_Mem) (z : Int32 × bv_Mem), r_X2_readSingle l1 mi = some z → bv_Met yX2_readSingle MX2_readSingle bv_X0 d 74 74 [.ref 43, .int l1] (bv_mr mi) mi (bv_QI z)) : ∀ (fu : Nat) (l1 : Int32) (l4 : Int32) (mi : bv_Mem) (z : Int32 × bv_Mem), b_X2_readSingle_59 r_X2_readJoined r_X2_readSingle fu l1 l4 mi = some z → bv_Ev MX2_readSingle bv_X0 (d + 1) 74 74 (bv_QI z) 59 [some (.ref 43), some (.int l1), none, none, some (.int l4)] [] 74 (bv_mr mi) mi := by
  intro fu
  induction fu with
  | zero =>
    intro l1 l4 mi z h
    rw [b_X2_readSingle_59] at h
    cases h
  | succ fu ih =>
    intro l1 l4 mi z h
    rw [b_X2_readSingle_59] at h
    refine ev_iload dX2_readSingle_59 rfl ?_
    refine ev_iconst (3 : Int32) dX2_readSingle_61 (by decide) ?_
    refine ev_icmp_ge 103 dX2_readSingle_62 (by decide) (fun c1 => ?_) (fun c1 => ?_)
    · replace h := bv_tt c1 h
      refine ev_iload_n dX2_readSingle_103 rfl ?_
      refine ev_iconst (5 : Int32) dX2_readSingle_104 (by decide) ?_
      refine ev_icmp_ge 137 dX2_readSingle_105 (by decide) (fun c2 => ?_) (fun c2 => ?_)
      · replace h := bv_tt c2 h
        exact ev_weak (by exact And.intro rfl (And.intro rfl (trivial))) (wb_X2_readSingle_137 r_X2_readJoined r_X2_readSingle d hb hr_X2_readJoined hr_X2_readSingle _ _ _ h)
      · replace h := bv_ff c2 h
        refine ev_aload_n dX2_readSingle_108 rfl ?_
        refine ev_getI lf_X2_29 dX2_readSingle_109 rfl rfl ?_
        refine ev_bipush (33 : Int32) dX2_readSingle_112 (by decide) ?_
        refine ev_icmp_ne 137 dX2_readSingle_114 (by decide) (fun c3 => ?_) (fun c3 => ?_)
        · replace h := bv_ff c3 h
          exact ev_weak (by exact And.intro rfl (And.intro rfl (trivial))) (wb_X2_readSingle_137 r_X2_readJoined r_X2_readSingle d hb hr_X2_readJoined hr_X2_readSingle _ _ _ h)
        · replace h := bv_tt c3 h
          refine ev_aload_n dX2_readSingle_117 rfl ?_
          obtain ⟨z1, hz1, h⟩ := bv_bd h
          refine er_VV [] (fun _ _ q => q) lk_X2_39 dX2_readSingle_118 rfl rfl rfl (Nat.ble_eq.mpr (by omega)) rfl (wm_X2_step  _ _ hz1) ?_
          refine ev_aload_n dX2_readSingle_121 rfl ?_
          refine ev_iload_n dX2_readSingle_122 rfl ?_
          refine ev_iconst (1 : Int32) dX2_readSingle_123 (by decide) ?_
          refine ev_iadd dX2_readSingle_124 ?_
          obtain ⟨z2, hz2, h⟩ := bv_bd h
          refine er_VI [.int _] (fun _ _ q => q) lk_X2_56 dX2_readSingle_125 rfl rfl rfl (Nat.ble_eq.mpr (Nat.le_refl _)) rfl (hr_X2_readSingle _ _ _ hz2) ?_
          refine ev_if_ne 135 dX2_readSingle_128 (by decide) (fun c4 => ?_) (fun c4 => ?_)
          · replace h := bv_ff c4 h
            refine ev_iconst (0 : Int32) dX2_readSingle_135 (by decide) ?_
            obtain rfl := Option.some.inj h
            exact ev_iret rfl dX2_readSingle_136 ⟨rfl, rfl, rfl⟩
          · replace h := bv_tt c4 h
            refine ev_iconst (1 : Int32) dX2_readSingle_131 (by decide) ?_
            refine ev_goto 136 dX2_readSingle_132 (by decide) ?_
            obtain rfl := Option.some.inj h
            exact ev_iret rfl dX2_readSingle_136 ⟨rfl, rfl, rfl⟩
    · replace h := bv_ff c1 h
      refine ev_aload_n dX2_readSingle_65 rfl ?_
      refine ev_getI lf_X2_29 dX2_readSingle_66 rfl rfl ?_
      refine ev_gets (j := 0) dX2_readSingle_69 (by decide) ls_X2_67 ?_
      refine ev_aload_n dX2_readSingle_72 rfl ?_
      refine ev_getI lf_X2_18 dX2_readSingle_73 rfl rfl ?_
      refine ev_iconst (3 : Int32) dX2_readSingle_76 (by decide) ?_
      refine ev_imul dX2_readSingle_77 ?_
      refine ev_iload dX2_readSingle_78 rfl ?_
      refine ev_iadd dX2_readSingle_80 ?_
      obtain ⟨g1, h⟩ := bv_gd h
      refine ev_xldc (j := 0) (N := 6) (f := bv_x0) dX2_readSingle_81 rfl g1 ?_
      refine ev_icmp_ne 97 dX2_readSingle_82 (by decide) (fun c5 => ?_) (fun c5 => ?_)
      · replace h := bv_ff c5 h
        refine ev_iinc (l4 + 1) dX2_readSingle_97 rfl rfl rfl rfl ?_
        refine ev_goto 59 dX2_readSingle_100 (by decide) ?_
        exact ev_weak (by exact And.intro rfl (And.intro rfl (And.intro rfl (trivial)))) (ih _ _ _ _ h)
      · replace h := bv_tt c5 h
        refine ev_aload_n dX2_readSingle_85 rfl ?_
        obtain ⟨z3, hz3, h⟩ := bv_bd h
        refine er_VV [] (fun _ _ q => q) lk_X2_39 dX2_readSingle_86 rfl rfl rfl (Nat.ble_eq.mpr (by omega)) rfl (wm_X2_step  _ _ hz3) ?_
        refine ev_aload_n dX2_readSingle_89 rfl ?_
        refine ev_getR 46 lf_X2_22 dX2_readSingle_90 rfl rfl rfl ?_
        refine ev_iload dX2_readSingle_93 rfl ?_
        obtain ⟨g2, h⟩ := bv_gd h
        refine ev_iald (N := 3) dX2_readSingle_95 rfl g2 ?_
        obtain rfl := Option.some.inj h
        exact ev_iret rfl dX2_readSingle_96 ⟨rfl, rfl, rfl⟩
set_option maxRecDepth 100000 in
set_option maxHeartbeats 4000000 in
theorem wb_X2_readSingle_50 (r_X2_readJoined : Int32 → Int32 → bv_Mem → Option (Int32 × bv_Mem)) (r_X2_readSingle : Int32 → bv_Mem → Option (Int32 × bv_Mem)) (d : Nat) (hb : 2 ≤ d) (hr_X2_readJoined : ∀ (l1 : Int32) (l2 : Int32) (mi : bv_Mem) (z : Int32 × bv_Mem), r_X2_readJoined l1 l2 mi = some z → bv_Met yX2_readJoined MX2_readJoined bv_X0 d 74 74 [.ref 43, .int l1, .int l2] (bv_mr mi) mi (bv_QI z)) (hr_X2_readSingle : ∀ (l1 : Int32) (mi : bv_Mem) (z : Int32 × bv_Mem), r_X2_readSingle l1 mi = some z → bv_Met yX2_readSingle MX2_readSingle bv_X0 d 74 74 [.ref 43, .int l1] (bv_mr mi) mi (bv_QI z)) (l1 : Int32) (l2 : Int32) (l3 : Int32) (mi : bv_Mem) (z : Int32 × bv_Mem) (h : b_X2_readSingle_50 r_X2_readJoined r_X2_readSingle l1 l2 l3 mi = some z) : bv_Ev MX2_readSingle bv_X0 (d + 1) 74 74 (bv_QI z) 50 [some (.ref 43), some (.int l1), some (.int l2), some (.int l3), none] [] 74 (bv_mr mi) mi := by
  unfold b_X2_readSingle_50 at h
  refine ev_iload_n dX2_readSingle_50 rfl ?_
  refine ev_if_le 56 dX2_readSingle_51 (by decide) (fun c1 => ?_) (fun c1 => ?_)
  · replace h := bv_tt c1 h
    refine ev_iconst (0 : Int32) dX2_readSingle_56 (by decide) ?_
    refine ev_istore dX2_readSingle_57 rfl rfl ?_
    exact ev_weak (by exact And.intro rfl (And.intro rfl (And.intro rfl (trivial)))) (wb_X2_readSingle_59 r_X2_readJoined r_X2_readSingle d hb hr_X2_readJoined hr_X2_readSingle 400 _ _ _ _ h)
  · replace h := bv_ff c1 h
    refine ev_iload_n dX2_readSingle_54 rfl ?_
    obtain rfl := Option.some.inj h
    exact ev_iret rfl dX2_readSingle_55 ⟨rfl, rfl, rfl⟩
set_option maxRecDepth 100000 in
set_option maxHeartbeats 4000000 in
theorem wb_X2_readSingle_4 (r_X2_readJoined : Int32 → Int32 → bv_Mem → Option (Int32 × bv_Mem)) (r_X2_readSingle : Int32 → bv_Mem → Option (Int32 × bv_Mem)) (d : Nat) (hb : 2 ≤ d) (hr_X2_readJoined : ∀ (l1 : Int32) (l2 : Int32) (mi : bv_Mem) (z : Int32 × bv_Mem), r_X2_readJoined l1 l2 mi = some z → bv_Met yX2_readJoined MX2_readJoined bv_X0 d 74 74 [.ref 43, .int l1, .int l2] (bv_mr mi) mi (bv_QI z)) (hr_X2_readSingle : ∀ (l1 : Int32) (mi : bv_Mem) (z : Int32 × bv_Mem), r_X2_readSingle l1 mi = some z → bv_Met yX2_readSingle MX2_readSingle bv_X0 d 74 74 [.ref 43, .int l1] (bv_mr mi) mi (bv_QI z)) : ∀ (fu : Nat) (l1 : Int32) (l2 : Int32) (l3 : Int32) (mi : bv_Mem) (z : Int32 × bv_Mem), b_X2_readSingle_4 r_X2_readJoined r_X2_readSingle fu l1 l2 l3 mi = some z → bv_Ev MX2_readSingle bv_X0 (d + 1) 74 74 (bv_QI z) 4 [some (.ref 43), some (.int l1), some (.int l2), some (.int l3), none] [] 74 (bv_mr mi) mi := by
  intro fu
  induction fu with
  | zero =>
    intro l1 l2 l3 mi z h
    rw [b_X2_readSingle_4] at h
    cases h
  | succ fu ih =>
    intro l1 l2 l3 mi z h
    rw [b_X2_readSingle_4] at h
    refine ev_iload_n dX2_readSingle_4 rfl ?_
    refine ev_iconst (4 : Int32) dX2_readSingle_5 (by decide) ?_
    refine ev_icmp_ge 50 dX2_readSingle_6 (by decide) (fun c1 => ?_) (fun c1 => ?_)
    · replace h := bv_tt c1 h
      exact ev_weak (by exact And.intro rfl (And.intro rfl (And.intro rfl (And.intro rfl (trivial))))) (wb_X2_readSingle_50 r_X2_readJoined r_X2_readSingle d hb hr_X2_readJoined hr_X2_readSingle _ _ _ _ _ h)
    · replace h := bv_ff c1 h
      refine ev_aload_n dX2_readSingle_9 rfl ?_
      refine ev_getI lf_X2_29 dX2_readSingle_10 rfl rfl ?_
      refine ev_bipush (48 : Int32) dX2_readSingle_13 (by decide) ?_
      refine ev_icmp_lt 50 dX2_readSingle_15 (by decide) (fun c2 => ?_) (fun c2 => ?_)
      · replace h := bv_tt c2 h
        exact ev_weak (by exact And.intro rfl (And.intro rfl (And.intro rfl (And.intro rfl (trivial))))) (wb_X2_readSingle_50 r_X2_readJoined r_X2_readSingle d hb hr_X2_readJoined hr_X2_readSingle _ _ _ _ _ h)
      · replace h := bv_ff c2 h
        refine ev_aload_n dX2_readSingle_18 rfl ?_
        refine ev_getI lf_X2_29 dX2_readSingle_19 rfl rfl ?_
        refine ev_bipush (57 : Int32) dX2_readSingle_22 (by decide) ?_
        refine ev_icmp_gt 50 dX2_readSingle_24 (by decide) (fun c3 => ?_) (fun c3 => ?_)
        · replace h := bv_tt c3 h
          exact ev_weak (by exact And.intro rfl (And.intro rfl (And.intro rfl (And.intro rfl (trivial))))) (wb_X2_readSingle_50 r_X2_readJoined r_X2_readSingle d hb hr_X2_readJoined hr_X2_readSingle _ _ _ _ _ h)
        · replace h := bv_ff c3 h
          refine ev_iload_n dX2_readSingle_27 rfl ?_
          refine ev_bipush (10 : Int32) dX2_readSingle_28 (by decide) ?_
          refine ev_imul dX2_readSingle_30 ?_
          refine ev_aload_n dX2_readSingle_31 rfl ?_
          refine ev_getI lf_X2_29 dX2_readSingle_32 rfl rfl ?_
          refine ev_iadd dX2_readSingle_35 ?_
          refine ev_bipush (48 : Int32) dX2_readSingle_36 (by decide) ?_
          refine ev_isub dX2_readSingle_38 ?_
          refine ev_istore_n dX2_readSingle_39 rfl rfl ?_
          refine ev_iinc (l3 + 1) dX2_readSingle_40 rfl rfl rfl rfl ?_
          refine ev_aload_n dX2_readSingle_43 rfl ?_
          obtain ⟨z1, hz1, h⟩ := bv_bd h
          refine er_VV [] (fun _ _ q => q) lk_X2_39 dX2_readSingle_44 rfl rfl rfl (Nat.ble_eq.mpr (by omega)) rfl (wm_X2_step  _ _ hz1) ?_
          refine ev_goto 4 dX2_readSingle_47 (by decide) ?_
          exact ev_weak (by exact And.intro rfl (And.intro rfl (And.intro rfl (And.intro rfl (trivial))))) (ih _ _ _ _ _ h)
set_option maxRecDepth 100000 in
set_option maxHeartbeats 4000000 in
theorem we_X2_readSingle (r_X2_readJoined : Int32 → Int32 → bv_Mem → Option (Int32 × bv_Mem)) (r_X2_readSingle : Int32 → bv_Mem → Option (Int32 × bv_Mem)) (d : Nat) (hb : 2 ≤ d) (hr_X2_readJoined : ∀ (l1 : Int32) (l2 : Int32) (mi : bv_Mem) (z : Int32 × bv_Mem), r_X2_readJoined l1 l2 mi = some z → bv_Met yX2_readJoined MX2_readJoined bv_X0 d 74 74 [.ref 43, .int l1, .int l2] (bv_mr mi) mi (bv_QI z)) (hr_X2_readSingle : ∀ (l1 : Int32) (mi : bv_Mem) (z : Int32 × bv_Mem), r_X2_readSingle l1 mi = some z → bv_Met yX2_readSingle MX2_readSingle bv_X0 d 74 74 [.ref 43, .int l1] (bv_mr mi) mi (bv_QI z)) (l1 : Int32) (mi : bv_Mem) (z : Int32 × bv_Mem) (h : F_X2_readSingle r_X2_readJoined r_X2_readSingle l1 mi = some z) : bv_Ev MX2_readSingle bv_X0 (d + 1) 74 74 (bv_QI z) 0 [some (.ref 43), some (.int l1), none, none, none] [] 74 (bv_mr mi) mi := by
  unfold F_X2_readSingle at h
  refine ev_iconst (0 : Int32) dX2_readSingle_0 (by decide) ?_
  refine ev_istore_n dX2_readSingle_1 rfl rfl ?_
  refine ev_iconst (0 : Int32) dX2_readSingle_2 (by decide) ?_
  refine ev_istore_n dX2_readSingle_3 rfl rfl ?_
  exact ev_weak (by exact And.intro rfl (And.intro rfl (And.intro rfl (And.intro rfl (trivial))))) (wb_X2_readSingle_4 r_X2_readJoined r_X2_readSingle d hb hr_X2_readJoined hr_X2_readSingle 400 _ _ _ _ _ h)
theorem wm_X2_readSingle (r_X2_readJoined : Int32 → Int32 → bv_Mem → Option (Int32 × bv_Mem)) (r_X2_readSingle : Int32 → bv_Mem → Option (Int32 × bv_Mem)) (d : Nat) (hb : 2 ≤ d) (hr_X2_readJoined : ∀ (l1 : Int32) (l2 : Int32) (mi : bv_Mem) (z : Int32 × bv_Mem), r_X2_readJoined l1 l2 mi = some z → bv_Met yX2_readJoined MX2_readJoined bv_X0 d 74 74 [.ref 43, .int l1, .int l2] (bv_mr mi) mi (bv_QI z)) (hr_X2_readSingle : ∀ (l1 : Int32) (mi : bv_Mem) (z : Int32 × bv_Mem), r_X2_readSingle l1 mi = some z → bv_Met yX2_readSingle MX2_readSingle bv_X0 d 74 74 [.ref 43, .int l1] (bv_mr mi) mi (bv_QI z)) (l1 : Int32) (mi : bv_Mem) (z : Int32 × bv_Mem) (h : F_X2_readSingle r_X2_readJoined r_X2_readSingle l1 mi = some z) : bv_Met yX2_readSingle MX2_readSingle bv_X0 (d + 1) 74 74 [.ref 43, .int l1] (bv_mr mi) mi (bv_QI z) :=
  bv_Met.of (pn_X 2 (by decide)) rfl (fun q => absurd q Bool.false_ne_true) (Nat.le_of_ble_eq_true rfl) (we_X2_readSingle r_X2_readJoined r_X2_readSingle d hb hr_X2_readJoined hr_X2_readSingle l1 mi z h)
theorem wG_X2 : ∀ n : Nat, (∀ (l1 : Int32) (l2 : Int32) (mi : bv_Mem) (z : Int32 × bv_Mem), (G_X2 n).1 l1 l2 mi = some z → bv_Met yX2_readJoined MX2_readJoined bv_X0 (2 + n) 74 74 [.ref 43, .int l1, .int l2] (bv_mr mi) mi (bv_QI z)) ∧ (∀ (l1 : Int32) (mi : bv_Mem) (z : Int32 × bv_Mem), (G_X2 n).2 l1 mi = some z → bv_Met yX2_readSingle MX2_readSingle bv_X0 (2 + n) 74 74 [.ref 43, .int l1] (bv_mr mi) mi (bv_QI z)) := by
  intro n
  induction n with
  | zero => exact ⟨fun _ _ _ z h => absurd h (by simp [G_X2]), fun _ _ z h => absurd h (by simp [G_X2])⟩
  | succ n ih => exact ⟨fun l1 l2 mi z h => wm_X2_readJoined (G_X2 n).1 (G_X2 n).2 (2 + n) (Nat.le_add_right _ _) ih.1 ih.2 l1 l2 mi z h, fun l1 mi z h => wm_X2_readSingle (G_X2 n).1 (G_X2 n).2 (2 + n) (Nat.le_add_right _ _) ih.1 ih.2 l1 mi z h⟩
set_option maxRecDepth 100000 in
set_option maxHeartbeats 4000000 in
theorem we_X2_worth   (l1 : Nat) (l2 : Int32) (l3 : Int32) (l4 : Int32) (l5 : Int32) (mi : bv_Mem) (z : Int32 × bv_Mem) (h : f_X2_worth  l1 l2 l3 l4 l5 mi = some z) : bv_Ev MX2_worth bv_X0 63 74 74 (bv_QI z) 0 [some (.ref 43), some (.ref l1), some (.int l2), some (.int l3), some (.int l4), some (.int l5), none] [] 74 (bv_mr mi) mi := by
  unfold f_X2_worth at h
  refine ev_aload_n dX2_worth_0 rfl ?_
  refine ev_aload_n dX2_worth_1 rfl ?_
  obtain ⟨g1, h⟩ := bv_gd h
  refine er_putT lf_X2_12 dX2_worth_2 g1 ?_
  refine ev_aload_n dX2_worth_5 rfl ?_
  refine ev_iload_n dX2_worth_6 rfl ?_
  refine er_putI lf_X2_18 dX2_worth_7 rfl rfl rfl rfl ?_
  refine ev_aload_n dX2_worth_10 rfl ?_
  refine ev_getR 46 lf_X2_22 dX2_worth_11 rfl rfl rfl ?_
  refine ev_iconst (0 : Int32) dX2_worth_14 (by decide) ?_
  refine ev_iload_n dX2_worth_15 rfl ?_
  refine er_iastk (N := 3) 0 dX2_worth_16 rfl rfl rfl ?_
  refine ev_aload_n dX2_worth_17 rfl ?_
  refine ev_getR 46 lf_X2_22 dX2_worth_18 rfl rfl rfl ?_
  refine ev_iconst (1 : Int32) dX2_worth_21 (by decide) ?_
  refine ev_iload dX2_worth_22 rfl ?_
  refine er_iastk (N := 3) 1 dX2_worth_24 rfl rfl rfl ?_
  refine ev_aload_n dX2_worth_25 rfl ?_
  refine ev_getR 46 lf_X2_22 dX2_worth_26 rfl rfl rfl ?_
  refine ev_iconst (2 : Int32) dX2_worth_29 (by decide) ?_
  refine ev_iload dX2_worth_30 rfl ?_
  refine er_iastk (N := 3) 2 dX2_worth_32 rfl rfl rfl ?_
  refine ev_aload_n dX2_worth_33 rfl ?_
  refine ev_iconst (-1 : Int32) dX2_worth_34 (by decide) ?_
  refine er_putI lf_X2_26 dX2_worth_35 rfl rfl rfl rfl ?_
  refine ev_aload_n dX2_worth_38 rfl ?_
  refine ev_iconst (-1 : Int32) dX2_worth_39 (by decide) ?_
  refine er_putI lf_X2_32 dX2_worth_40 rfl rfl rfl rfl ?_
  refine ev_aload_n dX2_worth_43 rfl ?_
  obtain ⟨z1, hz1, h⟩ := bv_bd h
  refine er_VV [] (fun _ _ q => q) lk_X2_39 dX2_worth_44 rfl rfl rfl rfl rfl (wm_X2_step  _ _ hz1) ?_
  refine ev_aload_n dX2_worth_47 rfl ?_
  refine ev_iconst (0 : Int32) dX2_worth_48 (by decide) ?_
  refine ev_iconst (0 : Int32) dX2_worth_49 (by decide) ?_
  obtain ⟨z2, hz2, h⟩ := bv_bd h
  refine er_VI [.int _, .int _] (fun _ _ q => q) lk_X2_42 dX2_worth_50 rfl rfl rfl rfl rfl ((wG_X2 60).1 _ _ _ _ hz2) ?_
  refine ev_istore dX2_worth_53 rfl rfl ?_
  refine ev_aload_n dX2_worth_55 rfl ?_
  refine ev_getI lf_X2_26 dX2_worth_56 rfl rfl ?_
  refine ev_aload_n dX2_worth_59 rfl ?_
  refine ev_getR ((z2.2 43 0).toNatClampNeg) lf_X2_12 dX2_worth_60 rfl rfl rfl ?_
  obtain ⟨g2, h⟩ := bv_gd h
  refine ev_getI lf_X2_46 dX2_worth_63 g2 rfl ?_
  refine ev_icmp_ge 73 dX2_worth_66 (by decide) (fun c1 => ?_) (fun c1 => ?_)
  · replace h := bv_tt c1 h
    refine ev_iload dX2_worth_73 rfl ?_
    obtain rfl := Option.some.inj h
    exact ev_iret rfl dX2_worth_75 ⟨rfl, rfl, rfl⟩
  · replace h := bv_ff c1 h
    refine ev_aload_n dX2_worth_69 rfl ?_
    obtain ⟨z3, hz3, h⟩ := bv_bd h
    refine er_VV [] (fun _ _ q => q) lk_X2_49 dX2_worth_70 rfl rfl rfl rfl rfl (wm_X2_refuse  _ _ hz3) ?_
    refine ev_iload dX2_worth_73 rfl ?_
    obtain rfl := Option.some.inj h
    exact ev_iret rfl dX2_worth_75 ⟨rfl, rfl, rfl⟩
theorem wm_X2_worth   (l1 : Nat) (l2 : Int32) (l3 : Int32) (l4 : Int32) (l5 : Int32) (mi : bv_Mem) (z : Int32 × bv_Mem) (h : f_X2_worth  l1 l2 l3 l4 l5 mi = some z) : bv_Met yX2_worth MX2_worth bv_X0 63 74 74 [.ref 43, .ref l1, .int l2, .int l3, .int l4, .int l5] (bv_mr mi) mi (bv_QI z) :=
  bv_Met.of (pn_X 2 (by decide)) rfl (fun q => absurd q Bool.false_ne_true) (Nat.le_of_ble_eq_true rfl) (we_X2_worth   l1 l2 l3 l4 l5 mi z h)
set_option maxRecDepth 100000 in
set_option maxHeartbeats 4000000 in
theorem we_X7_lawGives   (l1 : Int32) (l2 : Int32) (l3 : Int32) (l4 : Int32) (mi : bv_Mem) (z : Int32 × bv_Mem) (h : f_X7_lawGives  l1 l2 l3 l4 mi = some z) : bv_Ev MX7_lawGives bv_X0 64 74 74 (bv_QI z) 0 [some (.ref 0), some (.int l1), some (.int l2), some (.int l3), some (.int l4), none, none] [] 74 (bv_mr mi) mi := by
  unfold f_X7_lawGives at h
  refine ev_aload_n dX7_lawGives_0 rfl ?_
  refine ev_getR 1 lf_X7_10 dX7_lawGives_1 rfl rfl rfl ?_
  refine ev_iload_n dX7_lawGives_4 rfl ?_
  obtain ⟨z1, hz1, h⟩ := bv_bd h
  refine er_VR [.int _] (fun _ _ q => q) lk_X7_198 dX7_lawGives_5 rfl rfl rfl rfl rfl (wm_X5_textOf _ _ _ hz1) ?_
  refine ev_astore dX7_lawGives_8 rfl rfl ?_
  refine ev_iload_n dX7_lawGives_10 rfl ?_
  refine ev_if_ne 53 dX7_lawGives_11 (by decide) (fun c1 => ?_) (fun c1 => ?_)
  · replace h := bv_ff c1 h
    refine ev_aload dX7_lawGives_53 rfl ?_
    obtain ⟨g1, h⟩ := bv_gd h
    refine ev_getI lf_X7_183 dX7_lawGives_55 g1 rfl ?_
    refine ev_if_le 78 dX7_lawGives_58 (by decide) (fun c2 => ?_) (fun c2 => ?_)
    · replace h := bv_tt c2 h
      refine ev_iload_n dX7_lawGives_78 rfl ?_
      refine ev_iconst (2 : Int32) dX7_lawGives_79 (by decide) ?_
      refine ev_imul dX7_lawGives_80 ?_
      refine ev_iload_n dX7_lawGives_81 rfl ?_
      refine ev_iadd dX7_lawGives_82 ?_
      refine ev_istore dX7_lawGives_83 rfl rfl ?_
      refine ev_iload dX7_lawGives_85 rfl ?_
      refine ev_iconst (0 : Int32) dX7_lawGives_87 (by decide) ?_
      refine ev_sipush (999 : Int32) dX7_lawGives_88 (by decide) ?_
      obtain ⟨z2, hz2, h⟩ := bv_bd h
      refine er_SP [.int _, .int _, .int _] (fun _ _ q => q) lk_X7_312 dX7_lawGives_91 rfl rfl rfl rfl (wm_X7_held _ _ _ _ _ hz2) ?_
      obtain rfl := Option.some.inj h
      exact ev_iret rfl dX7_lawGives_94 ⟨rfl, rfl, rfl⟩
    · replace h := bv_ff c2 h
      refine ev_aload_n dX7_lawGives_61 rfl ?_
      refine ev_getR 43 lf_X7_26 dX7_lawGives_62 rfl rfl rfl ?_
      refine ev_aload dX7_lawGives_65 rfl ?_
      refine ev_iload_n dX7_lawGives_67 rfl ?_
      refine ev_iload_n dX7_lawGives_68 rfl ?_
      refine ev_iload_n dX7_lawGives_69 rfl ?_
      refine ev_iload dX7_lawGives_70 rfl ?_
      obtain ⟨z3, hz3, h⟩ := bv_bd h
      refine er_VI [.ref _, .int _, .int _, .int _, .int _] (fun _ _ q => q) lk_X7_308 dX7_lawGives_72 rfl rfl rfl rfl rfl (wm_X2_worth _ _ _ _ _ _ _ hz3) ?_
      refine ev_goto 83 dX7_lawGives_75 (by decide) ?_
      refine ev_istore dX7_lawGives_83 rfl rfl ?_
      refine ev_iload dX7_lawGives_85 rfl ?_
      refine ev_iconst (0 : Int32) dX7_lawGives_87 (by decide) ?_
      refine ev_sipush (999 : Int32) dX7_lawGives_88 (by decide) ?_
      obtain ⟨z4, hz4, h⟩ := bv_bd h
      refine er_SP [.int _, .int _, .int _] (fun _ _ q => q) lk_X7_312 dX7_lawGives_91 rfl rfl rfl rfl (wm_X7_held _ _ _ _ _ hz4) ?_
      obtain rfl := Option.some.inj h
      exact ev_iret rfl dX7_lawGives_94 ⟨rfl, rfl, rfl⟩
  · replace h := bv_tt c1 h
    refine ev_aload dX7_lawGives_14 rfl ?_
    obtain ⟨g2, h⟩ := bv_gd h
    refine ev_getI lf_X7_183 dX7_lawGives_16 g2 rfl ?_
    refine ev_if_le 39 dX7_lawGives_19 (by decide) (fun c3 => ?_) (fun c3 => ?_)
    · replace h := bv_tt c3 h
      refine ev_iconst (3 : Int32) dX7_lawGives_39 (by decide) ?_
      refine ev_iload_n dX7_lawGives_40 rfl ?_
      refine ev_iadd dX7_lawGives_41 ?_
      refine ev_istore dX7_lawGives_42 rfl rfl ?_
      refine ev_iload dX7_lawGives_44 rfl ?_
      refine ev_iconst (1 : Int32) dX7_lawGives_46 (by decide) ?_
      refine ev_bipush (99 : Int32) dX7_lawGives_47 (by decide) ?_
      obtain ⟨z5, hz5, h⟩ := bv_bd h
      refine er_SP [.int _, .int _, .int _] (fun _ _ q => q) lk_X7_312 dX7_lawGives_49 rfl rfl rfl rfl (wm_X7_held _ _ _ _ _ hz5) ?_
      obtain rfl := Option.some.inj h
      exact ev_iret rfl dX7_lawGives_52 ⟨rfl, rfl, rfl⟩
    · replace h := bv_ff c3 h
      refine ev_aload_n dX7_lawGives_22 rfl ?_
      refine ev_getR 43 lf_X7_26 dX7_lawGives_23 rfl rfl rfl ?_
      refine ev_aload dX7_lawGives_26 rfl ?_
      refine ev_iload_n dX7_lawGives_28 rfl ?_
      refine ev_iload_n dX7_lawGives_29 rfl ?_
      refine ev_iload_n dX7_lawGives_30 rfl ?_
      refine ev_iload dX7_lawGives_31 rfl ?_
      obtain ⟨z6, hz6, h⟩ := bv_bd h
      refine er_VI [.ref _, .int _, .int _, .int _, .int _] (fun _ _ q => q) lk_X7_308 dX7_lawGives_33 rfl rfl rfl rfl rfl (wm_X2_worth _ _ _ _ _ _ _ hz6) ?_
      refine ev_goto 42 dX7_lawGives_36 (by decide) ?_
      refine ev_istore dX7_lawGives_42 rfl rfl ?_
      refine ev_iload dX7_lawGives_44 rfl ?_
      refine ev_iconst (1 : Int32) dX7_lawGives_46 (by decide) ?_
      refine ev_bipush (99 : Int32) dX7_lawGives_47 (by decide) ?_
      obtain ⟨z7, hz7, h⟩ := bv_bd h
      refine er_SP [.int _, .int _, .int _] (fun _ _ q => q) lk_X7_312 dX7_lawGives_49 rfl rfl rfl rfl (wm_X7_held _ _ _ _ _ hz7) ?_
      obtain rfl := Option.some.inj h
      exact ev_iret rfl dX7_lawGives_52 ⟨rfl, rfl, rfl⟩
theorem wm_X7_lawGives   (l1 : Int32) (l2 : Int32) (l3 : Int32) (l4 : Int32) (mi : bv_Mem) (z : Int32 × bv_Mem) (h : f_X7_lawGives  l1 l2 l3 l4 mi = some z) : bv_Met yX7_lawGives MX7_lawGives bv_X0 64 74 74 [.ref 0, .int l1, .int l2, .int l3, .int l4] (bv_mr mi) mi (bv_QI z) :=
  bv_Met.of (pn_X 7 (by decide)) rfl (fun q => absurd q Bool.false_ne_true) (Nat.le_of_ble_eq_true rfl) (we_X7_lawGives   l1 l2 l3 l4 mi z h)
set_option maxRecDepth 100000 in
set_option maxHeartbeats 4000000 in
theorem wb_X7_takeOut_2  : ∀ (fu : Nat) (l1 : Int32) (l2 : Int32) (l3 : Int32) (mi : bv_Mem) (z : bv_Mem), b_X7_takeOut_2 fu l1 l2 l3 mi = some z → bv_Ev MX7_takeOut bv_X0 65 74 74 (bv_QV z) 2 [some (.ref 0), some (.int l1), some (.int l2), some (.int l3), none] [] 74 (bv_mr mi) mi := by
  intro fu
  induction fu with
  | zero =>
    intro l1 l2 l3 mi z h
    rw [b_X7_takeOut_2] at h
    cases h
  | succ fu ih =>
    intro l1 l2 l3 mi z h
    rw [b_X7_takeOut_2] at h
    refine ev_iload_n dX7_takeOut_2 rfl ?_
    refine ev_bipush (20 : Int32) dX7_takeOut_3 (by decide) ?_
    refine ev_icmp_ge 68 dX7_takeOut_5 (by decide) (fun c1 => ?_) (fun c1 => ?_)
    · replace h := bv_tt c1 h
      obtain rfl := Option.some.inj h
      exact ev_vret rfl dX7_takeOut_68 ⟨rfl, rfl, rfl⟩
    · replace h := bv_ff c1 h
      refine ev_iload_n dX7_takeOut_8 rfl ?_
      refine ev_iload_n dX7_takeOut_9 rfl ?_
      refine ev_ishr dX7_takeOut_10 ?_
      refine ev_iconst (1 : Int32) dX7_takeOut_11 (by decide) ?_
      refine ev_iand dX7_takeOut_12 ?_
      refine ev_if_eq 62 dX7_takeOut_13 (by decide) (fun c2 => ?_) (fun c2 => ?_)
      · replace h := bv_tt c2 h
        refine ev_iinc (l3 + 1) dX7_takeOut_62 rfl rfl rfl rfl ?_
        refine ev_goto 2 dX7_takeOut_65 (by decide) ?_
        exact ev_weak (by exact And.intro rfl (And.intro rfl (And.intro rfl (And.intro rfl (trivial))))) (ih _ _ _ _ _ h)
      · replace h := bv_ff c2 h
        refine ev_aload_n dX7_takeOut_16 rfl ?_
        refine ev_getR 1 lf_X7_10 dX7_takeOut_17 rfl rfl rfl ?_
        refine ev_getR 2 lf_X7_66 dX7_takeOut_20 rfl rfl rfl ?_
        refine ev_getR 3 lf_X7_70 dX7_takeOut_23 rfl rfl rfl ?_
        refine ev_iload_n dX7_takeOut_26 rfl ?_
        obtain ⟨g1, h⟩ := bv_gd h
        refine ev_iald (N := 20) dX7_takeOut_27 rfl g1 ?_
        refine ev_istore dX7_takeOut_28 rfl rfl ?_
        refine ev_aload_n dX7_takeOut_30 rfl ?_
        refine ev_getR 1 lf_X7_10 dX7_takeOut_31 rfl rfl rfl ?_
        refine ev_getR 2 lf_X7_66 dX7_takeOut_34 rfl rfl rfl ?_
        refine ev_getR 4 lf_X7_75 dX7_takeOut_37 rfl rfl rfl ?_
        refine ev_iload_n dX7_takeOut_40 rfl ?_
        refine ev_aload_n dX7_takeOut_41 rfl ?_
        refine ev_iconst (0 : Int32) dX7_takeOut_42 (by decide) ?_
        refine ev_iload dX7_takeOut_43 rfl ?_
        refine ev_iload_n dX7_takeOut_45 rfl ?_
        refine ev_iload_n dX7_takeOut_46 rfl ?_
        refine ev_isub dX7_takeOut_47 ?_
        refine er_abs dX7_takeOut_48 lm_X7_315 rfl rfl ?_
        refine ev_aload_n dX7_takeOut_51 rfl ?_
        refine ev_getR 1 lf_X7_10 dX7_takeOut_52 rfl rfl rfl ?_
        refine ev_getI lf_X7_210 dX7_takeOut_55 rfl rfl ?_
        obtain ⟨z1, hz1, h⟩ := bv_bd h
        refine er_VI [.int _, .int _, .int _, .int _] (fun _ _ q => q) lk_X7_206 dX7_takeOut_58 rfl rfl rfl rfl rfl (wm_X7_lawGives _ _ _ _ _ _ hz1) ?_
        refine er_iast (N := 20) dX7_takeOut_61 rfl g1 ?_
        refine ev_iinc (l3 + 1) dX7_takeOut_62 rfl rfl rfl rfl ?_
        refine ev_goto 2 dX7_takeOut_65 (by decide) ?_
        exact ev_weak (by exact And.intro rfl (And.intro rfl (And.intro rfl (And.intro rfl (trivial))))) (ih _ _ _ _ _ h)
set_option maxRecDepth 100000 in
set_option maxHeartbeats 4000000 in
theorem we_X7_takeOut   (l1 : Int32) (l2 : Int32) (mi : bv_Mem) (z : bv_Mem) (h : f_X7_takeOut  l1 l2 mi = some z) : bv_Ev MX7_takeOut bv_X0 65 74 74 (bv_QV z) 0 [some (.ref 0), some (.int l1), some (.int l2), none, none] [] 74 (bv_mr mi) mi := by
  unfold f_X7_takeOut at h
  refine ev_iconst (0 : Int32) dX7_takeOut_0 (by decide) ?_
  refine ev_istore_n dX7_takeOut_1 rfl rfl ?_
  exact ev_weak (by exact And.intro rfl (And.intro rfl (And.intro rfl (And.intro rfl (trivial))))) (wb_X7_takeOut_2  400 _ _ _ _ _ h)
theorem wm_X7_takeOut   (l1 : Int32) (l2 : Int32) (mi : bv_Mem) (z : bv_Mem) (h : f_X7_takeOut  l1 l2 mi = some z) : bv_Met yX7_takeOut MX7_takeOut bv_X0 65 74 74 [.ref 0, .int l1, .int l2] (bv_mr mi) mi (bv_QV z) :=
  bv_Met.of (pn_X 7 (by decide)) rfl (fun q => absurd q Bool.false_ne_true) (Nat.le_of_ble_eq_true rfl) (we_X7_takeOut   l1 l2 mi z h)
set_option maxRecDepth 100000 in
set_option maxHeartbeats 4000000 in
theorem we_X0_turnInto   (l0 : Nat) (l1 : Int32) (mi : bv_Mem) (z : bv_Mem) (h : f_X0_turnInto  l0 l1 mi = some z) : bv_Ev MX0_turnInto bv_X0 0 74 74 (bv_QV z) 0 [some (.ref l0), some (.int l1)] [] 74 (bv_mr mi) mi := by
  unfold f_X0_turnInto at h
  refine ev_aload_n dX0_turnInto_0 rfl ?_
  refine ev_iload_n dX0_turnInto_1 rfl ?_
  refine ev_bipush (10 : Int32) dX0_turnInto_2 (by decide) ?_
  refine ev_idiv dX0_turnInto_4 (by decide) ?_
  obtain ⟨g1, h⟩ := bv_gd h
  refine er_putI lf_X0_29 dX0_turnInto_5 g1 rfl rfl rfl ?_
  refine ev_aload_n dX0_turnInto_8 rfl ?_
  refine ev_iload_n dX0_turnInto_9 rfl ?_
  refine ev_bipush (10 : Int32) dX0_turnInto_10 (by decide) ?_
  refine ev_irem dX0_turnInto_12 (by decide) ?_
  refine er_putI lf_X0_32 dX0_turnInto_13 g1 rfl rfl rfl ?_
  obtain rfl := Option.some.inj h
  exact ev_vret rfl dX0_turnInto_16 ⟨rfl, rfl, rfl⟩
theorem wm_X0_turnInto   (l0 : Nat) (l1 : Int32) (mi : bv_Mem) (z : bv_Mem) (h : f_X0_turnInto  l0 l1 mi = some z) : bv_Met yX0_turnInto MX0_turnInto bv_X0 0 74 74 [.ref l0, .int l1] (bv_mr mi) mi (bv_QV z) :=
  bv_Met.of (pn_X 0 (by decide)) rfl (fun q => absurd q Bool.false_ne_true) (Nat.le_of_ble_eq_true rfl) (we_X0_turnInto   l0 l1 mi z h)
set_option maxRecDepth 100000 in
set_option maxHeartbeats 4000000 in
theorem we_X0_startAs   (l0 : Nat) (l1 : Int32) (l2 : Int32) (l3 : Int32) (mi : bv_Mem) (z : bv_Mem) (h : f_X0_startAs  l0 l1 l2 l3 mi = some z) : bv_Ev MX0_startAs bv_X0 1 74 74 (bv_QV z) 0 [some (.ref l0), some (.int l1), some (.int l2), some (.int l3)] [] 74 (bv_mr mi) mi := by
  unfold f_X0_startAs at h
  refine ev_aload_n dX0_startAs_0 rfl ?_
  refine ev_iload_n dX0_startAs_1 rfl ?_
  obtain ⟨g1, h⟩ := bv_gd h
  obtain ⟨z1, hz1, h⟩ := bv_bd h
  refine er_VV [.int _] (fun _ _ q => q) lk_X0_9 dX0_startAs_2 rfl rfl g1 rfl rfl (wm_X0_turnInto _ _ _ _ hz1) ?_
  refine ev_aload_n dX0_startAs_5 rfl ?_
  refine ev_iload_n dX0_startAs_6 rfl ?_
  refine er_putI lf_X0_15 dX0_startAs_7 g1 rfl rfl rfl ?_
  refine ev_aload_n dX0_startAs_10 rfl ?_
  refine ev_iload_n dX0_startAs_11 rfl ?_
  refine er_putI lf_X0_19 dX0_startAs_12 g1 rfl rfl rfl ?_
  refine ev_aload_n dX0_startAs_15 rfl ?_
  refine ev_iconst (0 : Int32) dX0_startAs_16 (by decide) ?_
  refine er_putI lf_X0_22 dX0_startAs_17 g1 rfl rfl rfl ?_
  refine ev_aload_n dX0_startAs_20 rfl ?_
  refine ev_iconst (0 : Int32) dX0_startAs_21 (by decide) ?_
  refine er_putI lf_X0_25 dX0_startAs_22 g1 rfl rfl rfl ?_
  obtain rfl := Option.some.inj h
  exact ev_vret rfl dX0_startAs_25 ⟨rfl, rfl, rfl⟩
theorem wm_X0_startAs   (l0 : Nat) (l1 : Int32) (l2 : Int32) (l3 : Int32) (mi : bv_Mem) (z : bv_Mem) (h : f_X0_startAs  l0 l1 l2 l3 mi = some z) : bv_Met yX0_startAs MX0_startAs bv_X0 1 74 74 [.ref l0, .int l1, .int l2, .int l3] (bv_mr mi) mi (bv_QV z) :=
  bv_Met.of (pn_X 0 (by decide)) rfl (fun q => absurd q Bool.false_ne_true) (Nat.le_of_ble_eq_true rfl) (we_X0_startAs   l0 l1 l2 l3 mi z h)
set_option maxRecDepth 100000 in
set_option maxHeartbeats 4000000 in
theorem we_X7_fill   (l1 : Int32) (l2 : Int32) (l3 : Int32) (l4 : Int32) (mi : bv_Mem) (z : Int32 × bv_Mem) (h : f_X7_fill  l1 l2 l3 l4 mi = some z) : bv_Ev MX7_fill bv_X0 66 74 74 (bv_QI z) 0 [some (.ref 0), some (.int l1), some (.int l2), some (.int l3), some (.int l4), none, none] [] 74 (bv_mr mi) mi := by
  unfold f_X7_fill at h
  refine ev_iload_n dX7_fill_0 rfl ?_
  obtain ⟨z1, hz1, h⟩ := bv_bd h
  refine er_SP [.int _] (fun _ _ q => q) lk_X7_106 dX7_fill_1 rfl rfl rfl rfl (wm_X7_isKindWithNumber _ _ _ hz1) ?_
  refine ev_if_eq 30 dX7_fill_4 (by decide) (fun c1 => ?_) (fun c1 => ?_)
  · replace h := bv_tt c1 h
    refine ev_aload_n dX7_fill_30 rfl ?_
    refine ev_iconst (1 : Int32) dX7_fill_31 (by decide) ?_
    obtain ⟨z2, hz2, h⟩ := bv_bd h
    refine er_VI [.int _] (fun _ _ q => q) lk_X7_62 dX7_fill_32 rfl rfl rfl rfl rfl (wm_X7_error _ _ _ hz2) ?_
    obtain rfl := Option.some.inj h
    exact ev_iret rfl dX7_fill_35 ⟨rfl, rfl, rfl⟩
  · replace h := bv_ff c1 h
    refine ev_aload_n dX7_fill_7 rfl ?_
    refine ev_iload_n dX7_fill_8 rfl ?_
    obtain ⟨z3, hz3, h⟩ := bv_bd h
    refine er_VP [.int _] (fun _ _ q => q) lk_X7_103 dX7_fill_9 rfl rfl rfl rfl rfl (wm_X7_isVillage _ _ _ hz3) ?_
    refine ev_if_eq 30 dX7_fill_12 (by decide) (fun c2 => ?_) (fun c2 => ?_)
    · replace h := bv_tt c2 h
      refine ev_aload_n dX7_fill_30 rfl ?_
      refine ev_iconst (1 : Int32) dX7_fill_31 (by decide) ?_
      obtain ⟨z4, hz4, h⟩ := bv_bd h
      refine er_VI [.int _] (fun _ _ q => q) lk_X7_62 dX7_fill_32 rfl rfl rfl rfl rfl (wm_X7_error _ _ _ hz4) ?_
      obtain rfl := Option.some.inj h
      exact ev_iret rfl dX7_fill_35 ⟨rfl, rfl, rfl⟩
    · replace h := bv_ff c2 h
      refine ev_iload_n dX7_fill_15 rfl ?_
      obtain ⟨z5, hz5, h⟩ := bv_bd h
      refine er_SP [.int _] (fun _ _ q => q) lk_X7_109 dX7_fill_16 rfl rfl rfl rfl (wm_X7_isSide _ _ _ hz5) ?_
      refine ev_if_eq 30 dX7_fill_19 (by decide) (fun c3 => ?_) (fun c3 => ?_)
      · replace h := bv_tt c3 h
        refine ev_aload_n dX7_fill_30 rfl ?_
        refine ev_iconst (1 : Int32) dX7_fill_31 (by decide) ?_
        obtain ⟨z6, hz6, h⟩ := bv_bd h
        refine er_VI [.int _] (fun _ _ q => q) lk_X7_62 dX7_fill_32 rfl rfl rfl rfl rfl (wm_X7_error _ _ _ hz6) ?_
        obtain rfl := Option.some.inj h
        exact ev_iret rfl dX7_fill_35 ⟨rfl, rfl, rfl⟩
      · replace h := bv_ff c3 h
        refine ev_iload dX7_fill_22 rfl ?_
        obtain ⟨z7, hz7, h⟩ := bv_bd h
        refine er_SP [.int _] (fun _ _ q => q) lk_X7_112 dX7_fill_24 rfl rfl rfl rfl (wm_X7_isSomePlaces _ _ _ hz7) ?_
        refine ev_if_ne 36 dX7_fill_27 (by decide) (fun c4 => ?_) (fun c4 => ?_)
        · replace h := bv_ff c4 h
          refine ev_aload_n dX7_fill_36 rfl ?_
          refine ev_getR 1 lf_X7_10 dX7_fill_37 rfl rfl rfl ?_
          refine ev_getR 5 lf_X7_100 dX7_fill_40 rfl rfl rfl ?_
          refine ev_iload_n dX7_fill_43 rfl ?_
          obtain ⟨g1, h⟩ := bv_gd h
          refine ev_iald (N := 5) dX7_fill_44 rfl g1 ?_
          refine ev_istore dX7_fill_45 rfl rfl ?_
          refine ev_aload_n dX7_fill_47 rfl ?_
          refine ev_getR 1 lf_X7_10 dX7_fill_48 rfl rfl rfl ?_
          refine ev_getR 2 lf_X7_66 dX7_fill_51 rfl rfl rfl ?_
          refine ev_iload dX7_fill_54 rfl ?_
          refine ev_iload_n dX7_fill_56 rfl ?_
          refine ev_aload_n dX7_fill_57 rfl ?_
          refine ev_getR 1 lf_X7_10 dX7_fill_58 rfl rfl rfl ?_
          refine ev_getR 2 lf_X7_66 dX7_fill_61 rfl rfl rfl ?_
          refine ev_iconst (0 : Int32) dX7_fill_64 (by decide) ?_
          obtain ⟨z8, hz8, h⟩ := bv_bd h
          refine er_VP [.int _] (fun _ _ q => q) lk_X7_78 dX7_fill_65 rfl rfl rfl rfl rfl (wm_X1_goneBehind _ _ _ hz8) ?_
          obtain ⟨z9, hz9, h⟩ := bv_bd h
          refine er_VP [.int _, .int _, .int _] (fun _ _ q => q) lk_X7_81 dX7_fill_68 rfl rfl rfl rfl rfl (wm_X1_seenFrom _ _ _ _ _ hz9) ?_
          refine ev_istore dX7_fill_71 rfl rfl ?_
          refine ev_iload dX7_fill_73 rfl ?_
          refine ev_iload dX7_fill_75 rfl ?_
          refine ev_iconst (-1 : Int32) dX7_fill_77 (by decide) ?_
          refine ev_ixor dX7_fill_78 ?_
          refine ev_iand dX7_fill_79 ?_
          refine ev_if_eq 89 dX7_fill_80 (by decide) (fun c5 => ?_) (fun c5 => ?_)
          · replace h := bv_tt c5 h
            refine ev_aload_n dX7_fill_89 rfl ?_
            refine ev_getR 1 lf_X7_10 dX7_fill_90 rfl rfl rfl ?_
            refine ev_getI lf_X7_115 dX7_fill_93 rfl rfl ?_
            refine ev_bipush (8 : Int32) dX7_fill_96 (by decide) ?_
            refine ev_icmp_lt 107 dX7_fill_98 (by decide) (fun c6 => ?_) (fun c6 => ?_)
            · replace h := bv_tt c6 h
              refine ev_aload_n dX7_fill_107 rfl ?_
              refine ev_iload dX7_fill_108 rfl ?_
              refine ev_iload dX7_fill_110 rfl ?_
              obtain ⟨z10, hz10, h⟩ := bv_bd h
              refine er_VV [.int _, .int _] (fun _ _ q => q) lk_X7_118 dX7_fill_112 rfl rfl rfl rfl rfl (wm_X7_takeOut _ _ _ _ hz10) ?_
              refine ev_aload_n dX7_fill_115 rfl ?_
              refine ev_getR 1 lf_X7_10 dX7_fill_116 rfl rfl rfl ?_
              refine ev_getR 6 lf_X7_122 dX7_fill_119 rfl rfl rfl ?_
              refine ev_aload_n dX7_fill_122 rfl ?_
              refine ev_getR 1 lf_X7_10 dX7_fill_123 rfl rfl rfl ?_
              refine ev_getI lf_X7_115 dX7_fill_126 rfl rfl ?_
              obtain ⟨g2, h⟩ := bv_gd h
              obtain ⟨q1, hq1, h⟩ := bv_bd h
              refine er_aald (N := 8) q1 dX7_fill_129 rfl g2 hq1 ?_
              refine ev_iload_n dX7_fill_130 rfl ?_
              refine ev_iload dX7_fill_131 rfl ?_
              refine ev_iload dX7_fill_133 rfl ?_
              obtain ⟨g3, h⟩ := bv_gd h
              obtain ⟨z11, hz11, h⟩ := bv_bd h
              refine er_VV [.int _, .int _, .int _] (fun _ _ q => q) lk_X7_126 dX7_fill_135 rfl rfl g3 rfl rfl (wm_X0_startAs _ _ _ _ _ _ hz11) ?_
              refine ev_aload_n dX7_fill_138 rfl ?_
              refine ev_getR 1 lf_X7_10 dX7_fill_139 rfl rfl rfl ?_
              refine ev_dup dX7_fill_142 rfl ?_
              refine ev_getI lf_X7_115 dX7_fill_143 rfl rfl ?_
              refine ev_iconst (1 : Int32) dX7_fill_146 (by decide) ?_
              refine ev_iadd dX7_fill_147 ?_
              refine er_putI lf_X7_115 dX7_fill_148 rfl rfl rfl rfl ?_
              refine ev_aload_n dX7_fill_151 rfl ?_
              refine ev_getR 1 lf_X7_10 dX7_fill_152 rfl rfl rfl ?_
              refine ev_getI lf_X7_115 dX7_fill_155 rfl rfl ?_
              refine ev_iconst (1 : Int32) dX7_fill_158 (by decide) ?_
              refine ev_isub dX7_fill_159 ?_
              obtain rfl := Option.some.inj h
              exact ev_iret rfl dX7_fill_160 ⟨rfl, rfl, rfl⟩
            · replace h := bv_ff c6 h
              refine ev_aload_n dX7_fill_101 rfl ?_
              refine ev_iconst (4 : Int32) dX7_fill_102 (by decide) ?_
              obtain ⟨z12, hz12, h⟩ := bv_bd h
              refine er_VI [.int _] (fun _ _ q => q) lk_X7_62 dX7_fill_103 rfl rfl rfl rfl rfl (wm_X7_error _ _ _ hz12) ?_
              obtain rfl := Option.some.inj h
              exact ev_iret rfl dX7_fill_106 ⟨rfl, rfl, rfl⟩
          · replace h := bv_ff c5 h
            refine ev_aload_n dX7_fill_83 rfl ?_
            refine ev_iconst (3 : Int32) dX7_fill_84 (by decide) ?_
            obtain ⟨z13, hz13, h⟩ := bv_bd h
            refine er_VI [.int _] (fun _ _ q => q) lk_X7_62 dX7_fill_85 rfl rfl rfl rfl rfl (wm_X7_error _ _ _ hz13) ?_
            obtain rfl := Option.some.inj h
            exact ev_iret rfl dX7_fill_88 ⟨rfl, rfl, rfl⟩
        · replace h := bv_tt c4 h
          refine ev_aload_n dX7_fill_30 rfl ?_
          refine ev_iconst (1 : Int32) dX7_fill_31 (by decide) ?_
          obtain ⟨z14, hz14, h⟩ := bv_bd h
          refine er_VI [.int _] (fun _ _ q => q) lk_X7_62 dX7_fill_32 rfl rfl rfl rfl rfl (wm_X7_error _ _ _ hz14) ?_
          obtain rfl := Option.some.inj h
          exact ev_iret rfl dX7_fill_35 ⟨rfl, rfl, rfl⟩
theorem wm_X7_fill   (l1 : Int32) (l2 : Int32) (l3 : Int32) (l4 : Int32) (mi : bv_Mem) (z : Int32 × bv_Mem) (h : f_X7_fill  l1 l2 l3 l4 mi = some z) : bv_Met yX7_fill MX7_fill bv_X0 66 74 74 [.ref 0, .int l1, .int l2, .int l3, .int l4] (bv_mr mi) mi (bv_QI z) :=
  bv_Met.of (pn_X 7 (by decide)) rfl (fun q => absurd q Bool.false_ne_true) (Nat.le_of_ble_eq_true rfl) (we_X7_fill   l1 l2 l3 l4 mi z h)
set_option maxRecDepth 100000 in
set_option maxHeartbeats 4000000 in
theorem we_X7_isBottle   (l1 : Int32) (mi : bv_Mem) (z : Int32) (h : f_X7_isBottle  l1 mi = some z) : bv_Ev MX7_isBottle bv_X0 1 74 74 (bv_QP z mi) 0 [some (.ref 0), some (.int l1)] [] 74 (bv_mr mi) mi := by
  unfold f_X7_isBottle at h
  refine ev_iload_n dX7_isBottle_0 rfl ?_
  refine ev_iconst (0 : Int32) dX7_isBottle_1 (by decide) ?_
  refine ev_aload_n dX7_isBottle_2 rfl ?_
  refine ev_getR 1 lf_X7_10 dX7_isBottle_3 rfl rfl rfl ?_
  refine ev_getI lf_X7_115 dX7_isBottle_6 rfl rfl ?_
  refine ev_iconst (1 : Int32) dX7_isBottle_9 (by decide) ?_
  refine ev_isub dX7_isBottle_10 ?_
  obtain ⟨z1, hz1, h⟩ := bv_bd h
  refine er_SP [.int _, .int _, .int _] (fun _ _ q => q) lk_X7_58 dX7_isBottle_11 rfl rfl rfl rfl (wm_X7_isWithin _ _ _ _ _ hz1) ?_
  obtain ⟨g1, h⟩ := bv_gd h
  obtain rfl := Option.some.inj h
  exact ev_zret rfl g1 dX7_isBottle_14 ⟨rfl, rfl, rfl⟩
theorem wm_X7_isBottle   (l1 : Int32) (mi : bv_Mem) (z : Int32) (h : f_X7_isBottle  l1 mi = some z) : bv_Met yX7_isBottle MX7_isBottle bv_X0 1 74 74 [.ref 0, .int l1] (bv_mr mi) mi (bv_QP z mi) :=
  bv_Met.of (pn_X 7 (by decide)) rfl (fun q => absurd q Bool.false_ne_true) (Nat.le_of_ble_eq_true rfl) (we_X7_isBottle   l1 mi z h)
set_option maxRecDepth 100000 in
set_option maxHeartbeats 4000000 in
theorem we_X7_oneIf   (l0 : Int32) (mi : bv_Mem) (z : Int32) (h : f_X7_oneIf  l0 mi = some z) : bv_Ev MX7_oneIf bv_X0 0 74 74 (bv_QP z mi) 0 [some (.int l0)] [] 74 (bv_mr mi) mi := by
  unfold f_X7_oneIf at h
  refine ev_iload_n dX7_oneIf_0 rfl ?_
  refine ev_if_eq 8 dX7_oneIf_1 (by decide) (fun c1 => ?_) (fun c1 => ?_)
  · replace h := bv_tt c1 h
    refine ev_iconst (0 : Int32) dX7_oneIf_8 (by decide) ?_
    obtain rfl := Option.some.inj h
    exact ev_iret rfl dX7_oneIf_9 ⟨rfl, rfl, rfl⟩
  · replace h := bv_ff c1 h
    refine ev_iconst (1 : Int32) dX7_oneIf_4 (by decide) ?_
    refine ev_goto 9 dX7_oneIf_5 (by decide) ?_
    obtain rfl := Option.some.inj h
    exact ev_iret rfl dX7_oneIf_9 ⟨rfl, rfl, rfl⟩
theorem wm_X7_oneIf   (l0 : Int32) (mi : bv_Mem) (z : Int32) (h : f_X7_oneIf  l0 mi = some z) : bv_Met yX7_oneIf MX7_oneIf bv_X0 0 74 74 [.int l0] (bv_mr mi) mi (bv_QP z mi) :=
  bv_Met.of (pn_X 7 (by decide)) rfl (fun q => absurd q Bool.false_ne_true) (Nat.le_of_ble_eq_true rfl) (we_X7_oneIf   l0 mi z h)
set_option maxRecDepth 100000 in
set_option maxHeartbeats 4000000 in
theorem wb_X0_heldBetween_5 (mi : bv_Mem) : ∀ (fu : Nat) (l0 : Nat) (l1 : Int32) (l2 : Int32) (l3 : Int32) (l4 : Int32) (z : Int32), b_X0_heldBetween_5 mi fu l0 l1 l2 l3 l4 = some z → bv_Ev MX0_heldBetween bv_X0 1 74 74 (bv_QP z mi) 5 [some (.ref l0), some (.int l1), some (.int l2), some (.int l3), some (.int l4)] [] 74 (bv_mr mi) mi := by
  intro fu
  induction fu with
  | zero =>
    intro l0 l1 l2 l3 l4 z h
    rw [b_X0_heldBetween_5] at h
    cases h
  | succ fu ih =>
    intro l0 l1 l2 l3 l4 z h
    rw [b_X0_heldBetween_5] at h
    refine ev_iload dX0_heldBetween_5 rfl ?_
    refine ev_bipush (20 : Int32) dX0_heldBetween_7 (by decide) ?_
    refine ev_icmp_ge 43 dX0_heldBetween_9 (by decide) (fun c1 => ?_) (fun c1 => ?_)
    · replace h := bv_tt c1 h
      refine ev_iload_n dX0_heldBetween_43 rfl ?_
      refine ev_aload_n dX0_heldBetween_44 rfl ?_
      obtain ⟨g1, h⟩ := bv_gd h
      refine ev_getI lf_X0_19 dX0_heldBetween_45 g1 rfl ?_
      refine ev_iand dX0_heldBetween_48 ?_
      obtain rfl := Option.some.inj h
      exact ev_iret rfl dX0_heldBetween_49 ⟨rfl, rfl, rfl⟩
    · replace h := bv_ff c1 h
      refine ev_iload dX0_heldBetween_12 rfl ?_
      refine ev_aload_n dX0_heldBetween_14 rfl ?_
      obtain ⟨g2, h⟩ := bv_gd h
      refine ev_getI lf_X0_15 dX0_heldBetween_15 g2 rfl ?_
      refine ev_isub dX0_heldBetween_18 ?_
      refine er_abs dX0_heldBetween_19 lm_X0_43 rfl rfl ?_
      refine ev_iload_n dX0_heldBetween_22 rfl ?_
      refine ev_iload_n dX0_heldBetween_23 rfl ?_
      obtain ⟨z1, hz1, h⟩ := bv_bd h
      refine er_SNP [.int _, .int _, .int _] (fun _ _ q => q) lk_X0_49 dX0_heldBetween_24 rfl rfl rfl rfl (wm_X7_isWithin _ _ _ _ _ hz1) ?_
      refine ev_if_eq 37 dX0_heldBetween_27 (by decide) (fun c2 => ?_) (fun c2 => ?_)
      · replace h := bv_tt c2 h
        refine ev_iinc (l4 + 1) dX0_heldBetween_37 rfl rfl rfl rfl ?_
        refine ev_goto 5 dX0_heldBetween_40 (by decide) ?_
        exact ev_weak (by exact And.intro rfl (And.intro rfl (And.intro rfl (And.intro rfl (And.intro rfl (trivial)))))) (ih _ _ _ _ _ _ h)
      · replace h := bv_ff c2 h
        refine ev_iload_n dX0_heldBetween_30 rfl ?_
        refine ev_iconst (1 : Int32) dX0_heldBetween_31 (by decide) ?_
        refine ev_iload dX0_heldBetween_32 rfl ?_
        refine ev_ishl dX0_heldBetween_34 ?_
        refine ev_ior dX0_heldBetween_35 ?_
        refine ev_istore_n dX0_heldBetween_36 rfl rfl ?_
        refine ev_iinc (l4 + 1) dX0_heldBetween_37 rfl rfl rfl rfl ?_
        refine ev_goto 5 dX0_heldBetween_40 (by decide) ?_
        exact ev_weak (by exact And.intro rfl (And.intro rfl (And.intro rfl (And.intro rfl (And.intro rfl (trivial)))))) (ih _ _ _ _ _ _ h)
set_option maxRecDepth 100000 in
set_option maxHeartbeats 4000000 in
theorem we_X0_heldBetween   (l0 : Nat) (l1 : Int32) (l2 : Int32) (mi : bv_Mem) (z : Int32) (h : f_X0_heldBetween  l0 l1 l2 mi = some z) : bv_Ev MX0_heldBetween bv_X0 1 74 74 (bv_QP z mi) 0 [some (.ref l0), some (.int l1), some (.int l2), none, none] [] 74 (bv_mr mi) mi := by
  unfold f_X0_heldBetween at h
  refine ev_iconst (0 : Int32) dX0_heldBetween_0 (by decide) ?_
  refine ev_istore_n dX0_heldBetween_1 rfl rfl ?_
  refine ev_iconst (0 : Int32) dX0_heldBetween_2 (by decide) ?_
  refine ev_istore dX0_heldBetween_3 rfl rfl ?_
  exact ev_weak (by exact And.intro rfl (And.intro rfl (And.intro rfl (And.intro rfl (And.intro rfl (trivial)))))) (wb_X0_heldBetween_5 mi 400 _ _ _ _ _ _ h)
theorem wm_X0_heldBetween   (l0 : Nat) (l1 : Int32) (l2 : Int32) (mi : bv_Mem) (z : Int32) (h : f_X0_heldBetween  l0 l1 l2 mi = some z) : bv_Met yX0_heldBetween MX0_heldBetween bv_X0 1 74 74 [.ref l0, .int l1, .int l2] (bv_mr mi) mi (bv_QP z mi) :=
  bv_Met.of (pn_X 0 (by decide)) rfl (fun q => absurd q Bool.false_ne_true) (Nat.le_of_ble_eq_true rfl) (we_X0_heldBetween   l0 l1 l2 mi z h)
set_option maxRecDepth 100000 in
set_option maxHeartbeats 4000000 in
theorem we_X0_left   (l0 : Nat) (mi : bv_Mem) (z : Int32) (h : f_X0_left  l0 mi = some z) : bv_Ev MX0_left bv_X0 2 74 74 (bv_QP z mi) 0 [some (.ref l0)] [] 74 (bv_mr mi) mi := by
  unfold f_X0_left at h
  refine ev_aload_n dX0_left_0 rfl ?_
  obtain ⟨g1, h⟩ := bv_gd h
  refine ev_getI lf_X0_25 dX0_left_1 g1 rfl ?_
  refine ev_if_eq 9 dX0_left_4 (by decide) (fun c1 => ?_) (fun c1 => ?_)
  · replace h := bv_tt c1 h
    refine ev_aload_n dX0_left_9 rfl ?_
    refine ev_getI lf_X0_29 dX0_left_10 g1 rfl ?_
    by_cases c2 : (mi l0 0) = (1 : Int32)
    · replace h := bv_tt c2 h
      refine ev_tableIn (39) 52 dX0_left_13 (by rw [c2]; decide) (by rw [c2]; decide) (by rw [c2]; decide) (by decide) ?_
      refine ev_aload_n dX0_left_52 rfl ?_
      refine ev_iconst (3 : Int32) dX0_left_53 (by decide) ?_
      refine ev_bipush (20 : Int32) dX0_left_54 (by decide) ?_
      obtain ⟨z1, hz1, h⟩ := bv_bd h
      refine er_VP [.int _, .int _] (fun _ _ q => q) lk_X0_39 dX0_left_56 rfl rfl g1 rfl rfl (wm_X0_heldBetween _ _ _ _ _ hz1) ?_
      obtain rfl := Option.some.inj h
      exact ev_iret rfl dX0_left_59 ⟨rfl, rfl, rfl⟩
    replace h := bv_ff c2 h
    by_cases c3 : (mi l0 0) = (2 : Int32)
    · replace h := bv_tt c3 h
      refine ev_tableIn (47) 60 dX0_left_13 (by rw [c3]; decide) (by rw [c3]; decide) (by rw [c3]; decide) (by decide) ?_
      refine ev_aload_n dX0_left_60 rfl ?_
      refine ev_getI lf_X0_19 dX0_left_61 g1 rfl ?_
      refine ev_iconst (1 : Int32) dX0_left_64 (by decide) ?_
      refine ev_aload_n dX0_left_65 rfl ?_
      refine ev_getI lf_X0_32 dX0_left_66 g1 rfl ?_
      refine ev_ishl dX0_left_69 ?_
      refine ev_ior dX0_left_70 ?_
      obtain rfl := Option.some.inj h
      exact ev_iret rfl dX0_left_71 ⟨rfl, rfl, rfl⟩
    replace h := bv_ff c3 h
    by_cases c4 : (mi l0 0) = (3 : Int32)
    · replace h := bv_tt c4 h
      refine ev_tableIn (59) 72 dX0_left_13 (by rw [c4]; decide) (by rw [c4]; decide) (by rw [c4]; decide) (by decide) ?_
      refine ev_aload_n dX0_left_72 rfl ?_
      refine ev_iconst (0 : Int32) dX0_left_73 (by decide) ?_
      refine ev_bipush (19 : Int32) dX0_left_74 (by decide) ?_
      refine ev_aload_n dX0_left_76 rfl ?_
      refine ev_getI lf_X0_22 dX0_left_77 g1 rfl ?_
      refine ev_isub dX0_left_80 ?_
      obtain ⟨z2, hz2, h⟩ := bv_bd h
      refine er_VP [.int _, .int _] (fun _ _ q => q) lk_X0_39 dX0_left_81 rfl rfl g1 rfl rfl (wm_X0_heldBetween _ _ _ _ _ hz2) ?_
      obtain rfl := Option.some.inj h
      exact ev_iret rfl dX0_left_84 ⟨rfl, rfl, rfl⟩
    replace h := bv_ff c4 h
    by_cases c5 : (mi l0 0) = (4 : Int32)
    · replace h := bv_tt c5 h
      refine ev_tableIn (39) 52 dX0_left_13 (by rw [c5]; decide) (by rw [c5]; decide) (by rw [c5]; decide) (by decide) ?_
      refine ev_aload_n dX0_left_52 rfl ?_
      refine ev_iconst (3 : Int32) dX0_left_53 (by decide) ?_
      refine ev_bipush (20 : Int32) dX0_left_54 (by decide) ?_
      obtain ⟨z3, hz3, h⟩ := bv_bd h
      refine er_VP [.int _, .int _] (fun _ _ q => q) lk_X0_39 dX0_left_56 rfl rfl g1 rfl rfl (wm_X0_heldBetween _ _ _ _ _ hz3) ?_
      obtain rfl := Option.some.inj h
      exact ev_iret rfl dX0_left_59 ⟨rfl, rfl, rfl⟩
    replace h := bv_ff c5 h
    by_cases c6 : (mi l0 0) = (5 : Int32)
    · replace h := bv_tt c6 h
      refine ev_tableIn (47) 60 dX0_left_13 (by rw [c6]; decide) (by rw [c6]; decide) (by rw [c6]; decide) (by decide) ?_
      refine ev_aload_n dX0_left_60 rfl ?_
      refine ev_getI lf_X0_19 dX0_left_61 g1 rfl ?_
      refine ev_iconst (1 : Int32) dX0_left_64 (by decide) ?_
      refine ev_aload_n dX0_left_65 rfl ?_
      refine ev_getI lf_X0_32 dX0_left_66 g1 rfl ?_
      refine ev_ishl dX0_left_69 ?_
      refine ev_ior dX0_left_70 ?_
      obtain rfl := Option.some.inj h
      exact ev_iret rfl dX0_left_71 ⟨rfl, rfl, rfl⟩
    replace h := bv_ff c6 h
    by_cases c7 : (mi l0 0) = (6 : Int32)
    · replace h := bv_tt c7 h
      refine ev_tableIn (72) 85 dX0_left_13 (by rw [c7]; decide) (by rw [c7]; decide) (by rw [c7]; decide) (by decide) ?_
      refine ev_aload_n dX0_left_85 rfl ?_
      refine ev_iconst (0 : Int32) dX0_left_86 (by decide) ?_
      refine ev_bipush (19 : Int32) dX0_left_87 (by decide) ?_
      refine ev_aload_n dX0_left_89 rfl ?_
      refine ev_getI lf_X0_22 dX0_left_90 g1 rfl ?_
      refine ev_iconst (2 : Int32) dX0_left_93 (by decide) ?_
      refine ev_idiv dX0_left_94 (by decide) ?_
      refine ev_isub dX0_left_95 ?_
      obtain ⟨z4, hz4, h⟩ := bv_bd h
      refine er_VP [.int _, .int _] (fun _ _ q => q) lk_X0_39 dX0_left_96 rfl rfl g1 rfl rfl (wm_X0_heldBetween _ _ _ _ _ hz4) ?_
      obtain rfl := Option.some.inj h
      exact ev_iret rfl dX0_left_99 ⟨rfl, rfl, rfl⟩
    replace h := bv_ff c7 h
    refine ev_tableOut 100 dX0_left_13 (bv_sw 6 (by decide) (fun j hj => by match j, hj with | 0, _ => exact c2 | 1, _ => exact c3 | 2, _ => exact c4 | 3, _ => exact c5 | 4, _ => exact c6 | 5, _ => exact c7 | j + 6, hj => exact absurd hj (by omega))) (by decide) ?_
    refine ev_aload_n dX0_left_100 rfl ?_
    refine ev_getI lf_X0_19 dX0_left_101 g1 rfl ?_
    obtain rfl := Option.some.inj h
    exact ev_iret rfl dX0_left_104 ⟨rfl, rfl, rfl⟩
  · replace h := bv_ff c1 h
    refine ev_iconst (0 : Int32) dX0_left_7 (by decide) ?_
    obtain rfl := Option.some.inj h
    exact ev_iret rfl dX0_left_8 ⟨rfl, rfl, rfl⟩
theorem wm_X0_left   (l0 : Nat) (mi : bv_Mem) (z : Int32) (h : f_X0_left  l0 mi = some z) : bv_Met yX0_left MX0_left bv_X0 2 74 74 [.ref l0] (bv_mr mi) mi (bv_QP z mi) :=
  bv_Met.of (pn_X 0 (by decide)) rfl (fun q => absurd q Bool.false_ne_true) (Nat.le_of_ble_eq_true rfl) (we_X0_left   l0 mi z h)
