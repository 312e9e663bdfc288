set_option maxRecDepth 100000 in
set_option maxHeartbeats 4000000 in
theorem we_X8_draw    (mi : bv_Mem) (z : Int32 × bv_Mem) (h : f_X8_draw  mi = some z) : bv_Ev MX8_draw bv_X0 0 74 74 (bv_QI z) 0 [some (.ref 61)] [] 74 (bv_mr mi) mi := by
  unfold f_X8_draw at h
  refine ev_aload_n dX8_draw_0 rfl ?_
  refine ev_getR 62 lf_X8_9 dX8_draw_1 rfl rfl rfl ?_
  refine ev_iconst (1 : Int32) dX8_draw_4 (by decide) ?_
  refine ev_aload_n dX8_draw_5 rfl ?_
  refine ev_getR 62 lf_X8_9 dX8_draw_6 rfl rfl rfl ?_
  refine ev_iconst (1 : Int32) dX8_draw_9 (by decide) ?_
  refine er_ialdk (N := 371) 1 dX8_draw_10 rfl rfl rfl ?_
  refine ev_ldc (1103515245 : Int32) dX8_draw_11 lc_X8_199 ?_
  refine ev_imul dX8_draw_13 ?_
  refine ev_sipush (12345 : Int32) dX8_draw_14 (by decide) ?_
  refine ev_iadd dX8_draw_17 ?_
  refine er_iastk (N := 371) 1 dX8_draw_18 rfl rfl rfl ?_
  refine ev_aload_n dX8_draw_19 rfl ?_
  refine ev_getR 62 lf_X8_9 dX8_draw_20 rfl rfl rfl ?_
  refine ev_iconst (1 : Int32) dX8_draw_23 (by decide) ?_
  refine er_ialdk (N := 371) 1 dX8_draw_24 rfl rfl rfl ?_
  refine ev_bipush (8 : Int32) dX8_draw_25 (by decide) ?_
  refine ev_iushr dX8_draw_27 ?_
  obtain rfl := Option.some.inj h
  exact ev_iret rfl dX8_draw_28 ⟨rfl, rfl, rfl⟩
theorem wm_X8_draw    (mi : bv_Mem) (z : Int32 × bv_Mem) (h : f_X8_draw  mi = some z) : bv_Met yX8_draw MX8_draw bv_X0 0 74 74 [.ref 61] (bv_mr mi) mi (bv_QI z) :=
  bv_Met.of (pn_X 8 (by decide)) rfl (fun q => absurd q Bool.false_ne_true) (Nat.le_of_ble_eq_true rfl) (we_X8_draw   mi z h)
set_option maxRecDepth 100000 in
set_option maxHeartbeats 4000000 in
theorem wb_X8_loose_40  : ∀ (fu : Nat) (l1 : Int32) (l2 : Int32) (mi : bv_Mem) (z : Int32 × bv_Mem), b_X8_loose_40 fu l1 l2 mi = some z → bv_Ev MX8_loose bv_X0 2 74 74 (bv_QI z) 40 [some (.ref 61), some (.int l1), some (.int l2), none] [] 74 (bv_mr mi) mi := by
  intro fu
  induction fu with
  | zero =>
    intro l1 l2 mi z h
    rw [b_X8_loose_40] at h
    cases h
  | succ fu ih =>
    intro l1 l2 mi z h
    rw [b_X8_loose_40] at h
    refine ev_iload_n dX8_loose_40 rfl ?_
    refine ev_iload_n dX8_loose_41 rfl ?_
    refine ev_icmp_ge 79 dX8_loose_42 (by decide) (fun c1 => ?_) (fun c1 => ?_)
    · replace h := bv_tt c1 h
      refine ev_aload_n dX8_loose_79 rfl ?_
      obtain ⟨z1, hz1, h⟩ := bv_bd h
      refine er_VP [] (fun _ _ q => q) lk_X8_196 dX8_loose_80 rfl rfl rfl rfl rfl (wm_X8_missing  _ _ hz1) ?_
      obtain rfl := Option.some.inj h
      exact ev_iret rfl dX8_loose_83 ⟨rfl, rfl, rfl⟩
    · replace h := bv_ff c1 h
      refine ev_aload_n dX8_loose_45 rfl ?_
      obtain ⟨z2, hz2, h⟩ := bv_bd h
      refine er_VI [] (fun _ _ q => q) lk_X8_200 dX8_loose_46 rfl rfl rfl rfl rfl (wm_X8_draw  _ _ hz2) ?_
      refine ev_bipush (20 : Int32) dX8_loose_49 (by decide) ?_
      refine ev_irem dX8_loose_51 (by decide) ?_
      refine ev_istore_n dX8_loose_52 rfl rfl ?_
      refine ev_aload_n dX8_loose_53 rfl ?_
      refine ev_getR 62 lf_X8_9 dX8_loose_54 rfl rfl rfl ?_
      refine ev_bipush (31 : Int32) dX8_loose_57 (by decide) ?_
      refine ev_iload_n dX8_loose_59 rfl ?_
      refine ev_iadd dX8_loose_60 ?_
      refine ev_aload_n dX8_loose_61 rfl ?_
      obtain ⟨z3, hz3, h⟩ := bv_bd h
      refine er_VI [] (fun _ _ q => q) lk_X8_200 dX8_loose_62 rfl rfl rfl rfl rfl (wm_X8_draw  _ _ hz3) ?_
      refine ev_bipush (10 : Int32) dX8_loose_65 (by decide) ?_
      refine ev_irem dX8_loose_67 (by decide) ?_
      obtain ⟨g1, h⟩ := bv_gd h
      refine er_iast (N := 371) dX8_loose_68 rfl g1 ?_
      refine ev_aload_n dX8_loose_69 rfl ?_
      obtain ⟨z4, hz4, h⟩ := bv_bd h
      refine er_VV [] (fun _ _ q => q) lk_X8_190 dX8_loose_70 rfl rfl rfl rfl rfl (wm_X8_day  _ _ hz4) ?_
      refine ev_iinc (l2 + 1) dX8_loose_73 rfl rfl rfl rfl ?_
      refine ev_goto 40 dX8_loose_76 (by decide) ?_
      exact ev_weak (by exact And.intro rfl (And.intro rfl (And.intro rfl (trivial)))) (ih _ _ _ _ h)
set_option maxRecDepth 100000 in
set_option maxHeartbeats 4000000 in
theorem we_X8_loose   (l1 : Int32) (mi : bv_Mem) (z : Int32 × bv_Mem) (h : f_X8_loose  l1 mi = some z) : bv_Ev MX8_loose bv_X0 2 74 74 (bv_QI z) 0 [some (.ref 61), some (.int l1), none, none] [] 74 (bv_mr mi) mi := by
  unfold f_X8_loose at h
  refine ev_iload_n dX8_loose_0 rfl ?_
  refine ev_iconst (1 : Int32) dX8_loose_1 (by decide) ?_
  refine ev_bipush (40 : Int32) dX8_loose_2 (by decide) ?_
  obtain ⟨z1, hz1, h⟩ := bv_bd h
  refine er_SP [.int _, .int _, .int _] (fun _ _ q => q) lk_X8_47 dX8_loose_4 rfl rfl rfl rfl (wm_X8_in _ _ _ _ _ hz1) ?_
  refine ev_if_ne 17 dX8_loose_7 (by decide) (fun c1 => ?_) (fun c1 => ?_)
  · replace h := bv_ff c1 h
    refine ev_aload_n dX8_loose_17 rfl ?_
    refine ev_getR 62 lf_X8_9 dX8_loose_18 rfl rfl rfl ?_
    refine ev_iconst (0 : Int32) dX8_loose_21 (by decide) ?_
    refine er_ialdk (N := 371) 0 dX8_loose_22 rfl rfl rfl ?_
    refine ev_iload_n dX8_loose_23 rfl ?_
    refine ev_iadd dX8_loose_24 ?_
    refine ev_sipush (9999 : Int32) dX8_loose_25 (by decide) ?_
    refine ev_icmp_le 38 dX8_loose_28 (by decide) (fun c2 => ?_) (fun c2 => ?_)
    · replace h := bv_tt c2 h
      refine ev_iconst (0 : Int32) dX8_loose_38 (by decide) ?_
      refine ev_istore_n dX8_loose_39 rfl rfl ?_
      exact ev_weak (by exact And.intro rfl (And.intro rfl (And.intro rfl (trivial)))) (wb_X8_loose_40  400 _ _ _ _ h)
    · replace h := bv_ff c2 h
      refine ev_aload_n dX8_loose_31 rfl ?_
      refine ev_ldc (-1000000003 : Int32) dX8_loose_32 lc_X8_110 ?_
      obtain ⟨z2, hz2, h⟩ := bv_bd h
      refine er_VI [.int _] (fun _ _ q => q) lk_X8_73 dX8_loose_34 rfl rfl rfl rfl rfl (wm_X8_error _ _ _ hz2) ?_
      obtain rfl := Option.some.inj h
      exact ev_iret rfl dX8_loose_37 ⟨rfl, rfl, rfl⟩
  · replace h := bv_tt c1 h
    refine ev_aload_n dX8_loose_10 rfl ?_
    refine ev_ldc (-1000000001 : Int32) dX8_loose_11 lc_X8_72 ?_
    obtain ⟨z3, hz3, h⟩ := bv_bd h
    refine er_VI [.int _] (fun _ _ q => q) lk_X8_73 dX8_loose_13 rfl rfl rfl rfl rfl (wm_X8_error _ _ _ hz3) ?_
    obtain rfl := Option.some.inj h
    exact ev_iret rfl dX8_loose_16 ⟨rfl, rfl, rfl⟩
theorem wm_X8_loose   (l1 : Int32) (mi : bv_Mem) (z : Int32 × bv_Mem) (h : f_X8_loose  l1 mi = some z) : bv_Met yX8_loose MX8_loose bv_X0 2 74 74 [.ref 61, .int l1] (bv_mr mi) mi (bv_QI z) :=
  bv_Met.of (pn_X 8 (by decide)) rfl (fun q => absurd q Bool.false_ne_true) (Nat.le_of_ble_eq_true rfl) (we_X8_loose   l1 mi z h)
set_option maxRecDepth 100000 in
set_option maxHeartbeats 4000000 in
theorem wb_X8_copyAll_62_64_2  : ∀ (fu : Nat) (l2 : Int32) (mi : bv_Mem) (z : bv_Mem), b_X8_copyAll_62_64_2 fu l2 mi = some z → bv_Ev MX8_copyAll bv_X0 0 74 74 (bv_QV z) 2 [some (.ref 62), some (.ref 64), some (.int l2)] [] 74 (bv_mr mi) mi := by
  intro fu
  induction fu with
  | zero =>
    intro l2 mi z h
    rw [b_X8_copyAll_62_64_2] at h
    cases h
  | succ fu ih =>
    intro l2 mi z h
    rw [b_X8_copyAll_62_64_2] at h
    refine ev_iload_n dX8_copyAll_2 rfl ?_
    refine ev_sipush (371 : Int32) dX8_copyAll_3 (by decide) ?_
    refine ev_icmp_ge 21 dX8_copyAll_6 (by decide) (fun c1 => ?_) (fun c1 => ?_)
    · replace h := bv_tt c1 h
      obtain rfl := Option.some.inj h
      exact ev_vret rfl dX8_copyAll_21 ⟨rfl, rfl, rfl⟩
    · replace h := bv_ff c1 h
      refine ev_aload_n dX8_copyAll_9 rfl ?_
      refine ev_iload_n dX8_copyAll_10 rfl ?_
      refine ev_aload_n dX8_copyAll_11 rfl ?_
      refine ev_iload_n dX8_copyAll_12 rfl ?_
      obtain ⟨g1, h⟩ := bv_gd h
      refine ev_iald (N := 371) dX8_copyAll_13 rfl g1 ?_
      refine er_iast (N := 371) dX8_copyAll_14 rfl g1 ?_
      refine ev_iinc (l2 + 1) dX8_copyAll_15 rfl rfl rfl rfl ?_
      refine ev_goto 2 dX8_copyAll_18 (by decide) ?_
      exact ev_weak (by exact And.intro rfl (And.intro rfl (And.intro rfl (trivial)))) (ih _ _ _ h)
set_option maxRecDepth 100000 in
set_option maxHeartbeats 4000000 in
theorem we_X8_copyAll_62_64    (mi : bv_Mem) (z : bv_Mem) (h : f_X8_copyAll_62_64  mi = some z) : bv_Ev MX8_copyAll bv_X0 0 74 74 (bv_QV z) 0 [some (.ref 62), some (.ref 64), none] [] 74 (bv_mr mi) mi := by
  unfold f_X8_copyAll_62_64 at h
  refine ev_iconst (0 : Int32) dX8_copyAll_0 (by decide) ?_
  refine ev_istore_n dX8_copyAll_1 rfl rfl ?_
  exact ev_weak (by exact And.intro rfl (And.intro rfl (And.intro rfl (trivial)))) (wb_X8_copyAll_62_64_2  400 _ _ _ h)
theorem wm_X8_copyAll_62_64    (mi : bv_Mem) (z : bv_Mem) (h : f_X8_copyAll_62_64  mi = some z) : bv_Met yX8_copyAll MX8_copyAll bv_X0 0 74 74 [.ref 62, .ref 64] (bv_mr mi) mi (bv_QV z) :=
  bv_Met.of (pn_X 8 (by decide)) rfl (fun q => absurd q Bool.false_ne_true) (Nat.le_of_ble_eq_true rfl) (we_X8_copyAll_62_64   mi z h)
set_option maxRecDepth 100000 in
set_option maxHeartbeats 4000000 in
theorem we_X8_thinks    (mi : bv_Mem) (z : bv_Mem) (h : f_X8_thinks  mi = some z) : bv_Ev MX8_thinks bv_X0 1 74 74 (bv_QV z) 0 [some (.ref 61)] [] 74 (bv_mr mi) mi := by
  unfold f_X8_thinks at h
  refine ev_aload_n dX8_thinks_0 rfl ?_
  refine ev_getR 62 lf_X8_9 dX8_thinks_1 rfl rfl rfl ?_
  refine ev_aload_n dX8_thinks_4 rfl ?_
  refine ev_getR 64 lf_X8_16 dX8_thinks_5 rfl rfl rfl ?_
  obtain ⟨z1, hz1, h⟩ := bv_bd h
  refine er_SV [.ref _, .ref _] (fun _ _ q => q) lk_X8_203 dX8_thinks_8 rfl rfl rfl rfl (wm_X8_copyAll_62_64  _ _ hz1) ?_
  obtain rfl := Option.some.inj h
  exact ev_vret rfl dX8_thinks_11 ⟨rfl, rfl, rfl⟩
theorem wm_X8_thinks    (mi : bv_Mem) (z : bv_Mem) (h : f_X8_thinks  mi = some z) : bv_Met yX8_thinks MX8_thinks bv_X0 1 74 74 [.ref 61] (bv_mr mi) mi (bv_QV z) :=
  bv_Met.of (pn_X 8 (by decide)) rfl (fun q => absurd q Bool.false_ne_true) (Nat.le_of_ble_eq_true rfl) (we_X8_thinks   mi z h)
set_option maxRecDepth 100000 in
set_option maxHeartbeats 4000000 in
theorem wb_X8_copyAll_64_62_2  : ∀ (fu : Nat) (l2 : Int32) (mi : bv_Mem) (z : bv_Mem), b_X8_copyAll_64_62_2 fu l2 mi = some z → bv_Ev MX8_copyAll bv_X0 0 74 74 (bv_QV z) 2 [some (.ref 64), some (.ref 62), some (.int l2)] [] 74 (bv_mr mi) mi := by
  intro fu
  induction fu with
  | zero =>
    intro l2 mi z h
    rw [b_X8_copyAll_64_62_2] at h
    cases h
  | succ fu ih =>
    intro l2 mi z h
    rw [b_X8_copyAll_64_62_2] at h
    refine ev_iload_n dX8_copyAll_2 rfl ?_
    refine ev_sipush (371 : Int32) dX8_copyAll_3 (by decide) ?_
    refine ev_icmp_ge 21 dX8_copyAll_6 (by decide) (fun c1 => ?_) (fun c1 => ?_)
    · replace h := bv_tt c1 h
      obtain rfl := Option.some.inj h
      exact ev_vret rfl dX8_copyAll_21 ⟨rfl, rfl, rfl⟩
    · replace h := bv_ff c1 h
      refine ev_aload_n dX8_copyAll_9 rfl ?_
      refine ev_iload_n dX8_copyAll_10 rfl ?_
      refine ev_aload_n dX8_copyAll_11 rfl ?_
      refine ev_iload_n dX8_copyAll_12 rfl ?_
      obtain ⟨g1, h⟩ := bv_gd h
      refine ev_iald (N := 371) dX8_copyAll_13 rfl g1 ?_
      refine er_iast (N := 371) dX8_copyAll_14 rfl g1 ?_
      refine ev_iinc (l2 + 1) dX8_copyAll_15 rfl rfl rfl rfl ?_
      refine ev_goto 2 dX8_copyAll_18 (by decide) ?_
      exact ev_weak (by exact And.intro rfl (And.intro rfl (And.intro rfl (trivial)))) (ih _ _ _ h)
set_option maxRecDepth 100000 in
set_option maxHeartbeats 4000000 in
theorem we_X8_copyAll_64_62    (mi : bv_Mem) (z : bv_Mem) (h : f_X8_copyAll_64_62  mi = some z) : bv_Ev MX8_copyAll bv_X0 0 74 74 (bv_QV z) 0 [some (.ref 64), some (.ref 62), none] [] 74 (bv_mr mi) mi := by
  unfold f_X8_copyAll_64_62 at h
  refine ev_iconst (0 : Int32) dX8_copyAll_0 (by decide) ?_
  refine ev_istore_n dX8_copyAll_1 rfl rfl ?_
  exact ev_weak (by exact And.intro rfl (And.intro rfl (And.intro rfl (trivial)))) (wb_X8_copyAll_64_62_2  400 _ _ _ h)
theorem wm_X8_copyAll_64_62    (mi : bv_Mem) (z : bv_Mem) (h : f_X8_copyAll_64_62  mi = some z) : bv_Met yX8_copyAll MX8_copyAll bv_X0 0 74 74 [.ref 64, .ref 62] (bv_mr mi) mi (bv_QV z) :=
  bv_Met.of (pn_X 8 (by decide)) rfl (fun q => absurd q Bool.false_ne_true) (Nat.le_of_ble_eq_true rfl) (we_X8_copyAll_64_62   mi z h)
set_option maxRecDepth 100000 in
set_option maxHeartbeats 4000000 in
theorem we_X8_putsBack    (mi : bv_Mem) (z : bv_Mem) (h : f_X8_putsBack  mi = some z) : bv_Ev MX8_putsBack bv_X0 1 74 74 (bv_QV z) 0 [some (.ref 61)] [] 74 (bv_mr mi) mi := by
  unfold f_X8_putsBack at h
  refine ev_aload_n dX8_putsBack_0 rfl ?_
  refine ev_getR 64 lf_X8_16 dX8_putsBack_1 rfl rfl rfl ?_
  refine ev_aload_n dX8_putsBack_4 rfl ?_
  refine ev_getR 62 lf_X8_9 dX8_putsBack_5 rfl rfl rfl ?_
  obtain ⟨z1, hz1, h⟩ := bv_bd h
  refine er_SV [.ref _, .ref _] (fun _ _ q => q) lk_X8_203 dX8_putsBack_8 rfl rfl rfl rfl (wm_X8_copyAll_64_62  _ _ hz1) ?_
  obtain rfl := Option.some.inj h
  exact ev_vret rfl dX8_putsBack_11 ⟨rfl, rfl, rfl⟩
theorem wm_X8_putsBack    (mi : bv_Mem) (z : bv_Mem) (h : f_X8_putsBack  mi = some z) : bv_Met yX8_putsBack MX8_putsBack bv_X0 1 74 74 [.ref 61] (bv_mr mi) mi (bv_QV z) :=
  bv_Met.of (pn_X 8 (by decide)) rfl (fun q => absurd q Bool.false_ne_true) (Nat.le_of_ble_eq_true rfl) (we_X8_putsBack   mi z h)
set_option maxRecDepth 100000 in
set_option maxHeartbeats 4000000 in
theorem we_X8_view   (l1 : Int32) (l2 : Int32) (l3 : Int32) (mi : bv_Mem) (z : Int32 × bv_Mem) (h : f_X8_view  l1 l2 l3 mi = some z) : bv_Ev MX8_view bv_X0 3 74 74 (bv_QI z) 0 [some (.ref 61), some (.int l1), some (.int l2), some (.int l3), none] [] 74 (bv_mr mi) mi := by
  unfold f_X8_view at h
  refine ev_aload_n dX8_view_0 rfl ?_
  refine ev_iload_n dX8_view_1 rfl ?_
  obtain ⟨z1, hz1, h⟩ := bv_bd h
  refine er_VP [.int _] (fun _ _ q => q) lk_X8_86 dX8_view_2 rfl rfl rfl rfl rfl (wm_X8_isVillage _ _ _ hz1) ?_
  refine ev_if_eq 27 dX8_view_5 (by decide) (fun c1 => ?_) (fun c1 => ?_)
  · replace h := bv_tt c1 h
    refine ev_aload_n dX8_view_27 rfl ?_
    refine ev_ldc (-1000000001 : Int32) dX8_view_28 lc_X8_72 ?_
    obtain ⟨z2, hz2, h⟩ := bv_bd h
    refine er_VI [.int _] (fun _ _ q => q) lk_X8_73 dX8_view_30 rfl rfl rfl rfl rfl (wm_X8_error _ _ _ hz2) ?_
    obtain rfl := Option.some.inj h
    exact ev_iret rfl dX8_view_33 ⟨rfl, rfl, rfl⟩
  · replace h := bv_ff c1 h
    refine ev_iload_n dX8_view_8 rfl ?_
    refine ev_iconst (0 : Int32) dX8_view_9 (by decide) ?_
    refine ev_iconst (1 : Int32) dX8_view_10 (by decide) ?_
    obtain ⟨z3, hz3, h⟩ := bv_bd h
    refine er_SP [.int _, .int _, .int _] (fun _ _ q => q) lk_X8_47 dX8_view_11 rfl rfl rfl rfl (wm_X8_in _ _ _ _ _ hz3) ?_
    refine ev_if_eq 27 dX8_view_14 (by decide) (fun c2 => ?_) (fun c2 => ?_)
    · replace h := bv_tt c2 h
      refine ev_aload_n dX8_view_27 rfl ?_
      refine ev_ldc (-1000000001 : Int32) dX8_view_28 lc_X8_72 ?_
      obtain ⟨z4, hz4, h⟩ := bv_bd h
      refine er_VI [.int _] (fun _ _ q => q) lk_X8_73 dX8_view_30 rfl rfl rfl rfl rfl (wm_X8_error _ _ _ hz4) ?_
      obtain rfl := Option.some.inj h
      exact ev_iret rfl dX8_view_33 ⟨rfl, rfl, rfl⟩
    · replace h := bv_ff c2 h
      refine ev_iload_n dX8_view_17 rfl ?_
      refine ev_iconst (0 : Int32) dX8_view_18 (by decide) ?_
      refine ev_bipush (100 : Int32) dX8_view_19 (by decide) ?_
      obtain ⟨z5, hz5, h⟩ := bv_bd h
      refine er_SP [.int _, .int _, .int _] (fun _ _ q => q) lk_X8_47 dX8_view_21 rfl rfl rfl rfl (wm_X8_in _ _ _ _ _ hz5) ?_
      refine ev_if_ne 34 dX8_view_24 (by decide) (fun c3 => ?_) (fun c3 => ?_)
      · replace h := bv_ff c3 h
        refine ev_aload_n dX8_view_34 rfl ?_
        obtain ⟨z6, hz6, h⟩ := bv_bd h
        refine er_VV [] (fun _ _ q => q) lk_X8_207 dX8_view_35 rfl rfl rfl rfl rfl (wm_X8_thinks  _ _ hz6) ?_
        refine ev_aload_n dX8_view_38 rfl ?_
        refine ev_iload_n dX8_view_39 rfl ?_
        obtain ⟨z7, hz7, h⟩ := bv_bd h
        refine er_VV [.int _] (fun _ _ q => q) lk_X8_193 dX8_view_40 rfl rfl rfl rfl rfl (wm_X8_goesOn _ _ _ hz7) ?_
        refine ev_aload_n dX8_view_43 rfl ?_
        refine ev_aload_n dX8_view_44 rfl ?_
        refine ev_getR 62 lf_X8_9 dX8_view_45 rfl rfl rfl ?_
        refine ev_bipush (6 : Int32) dX8_view_48 (by decide) ?_
        refine ev_iload_n dX8_view_50 rfl ?_
        refine ev_iadd dX8_view_51 ?_
        obtain ⟨g1, h⟩ := bv_gd h
        refine ev_iald (N := 371) dX8_view_52 rfl g1 ?_
        refine ev_iload_n dX8_view_53 rfl ?_
        obtain ⟨z8, hz8, h⟩ := bv_bd h
        refine er_VP [.int _, .int _] (fun _ _ q => q) lk_X8_62 dX8_view_54 rfl rfl rfl rfl rfl (wm_X8_viewOf _ _ _ _ hz8) ?_
        refine ev_istore dX8_view_57 rfl rfl ?_
        refine ev_aload_n dX8_view_59 rfl ?_
        obtain ⟨z9, hz9, h⟩ := bv_bd h
        refine er_VV [] (fun _ _ q => q) lk_X8_210 dX8_view_60 rfl rfl rfl rfl rfl (wm_X8_putsBack  _ _ hz9) ?_
        refine ev_iload dX8_view_63 rfl ?_
        obtain rfl := Option.some.inj h
        exact ev_iret rfl dX8_view_65 ⟨rfl, rfl, rfl⟩
      · replace h := bv_tt c3 h
        refine ev_aload_n dX8_view_27 rfl ?_
        refine ev_ldc (-1000000001 : Int32) dX8_view_28 lc_X8_72 ?_
        obtain ⟨z10, hz10, h⟩ := bv_bd h
        refine er_VI [.int _] (fun _ _ q => q) lk_X8_73 dX8_view_30 rfl rfl rfl rfl rfl (wm_X8_error _ _ _ hz10) ?_
        obtain rfl := Option.some.inj h
        exact ev_iret rfl dX8_view_33 ⟨rfl, rfl, rfl⟩
theorem wm_X8_view   (l1 : Int32) (l2 : Int32) (l3 : Int32) (mi : bv_Mem) (z : Int32 × bv_Mem) (h : f_X8_view  l1 l2 l3 mi = some z) : bv_Met yX8_view MX8_view bv_X0 3 74 74 [.ref 61, .int l1, .int l2, .int l3] (bv_mr mi) mi (bv_QI z) :=
  bv_Met.of (pn_X 8 (by decide)) rfl (fun q => absurd q Bool.false_ne_true) (Nat.le_of_ble_eq_true rfl) (we_X8_view   l1 l2 l3 mi z h)
set_option maxRecDepth 100000 in
set_option maxHeartbeats 4000000 in
theorem wb_X8_again_87  (l4 : Int32) (mi : bv_Mem) (z : Int32 × bv_Mem) (h : b_X8_again_87 l4 mi = some z) : bv_Ev MX8_again bv_X0 2 74 74 (bv_QI z) 87 [some (.ref 61), none, none, none, some (.int l4)] [] 74 (bv_mr mi) mi := by
  unfold b_X8_again_87 at h
  refine ev_aload_n dX8_again_87 rfl ?_
  obtain ⟨z1, hz1, h⟩ := bv_bd h
  refine er_VV [] (fun _ _ q => q) lk_X8_210 dX8_again_88 rfl rfl rfl rfl rfl (wm_X8_putsBack  _ _ hz1) ?_
  refine ev_iload dX8_again_91 rfl ?_
  refine ev_bipush (100 : Int32) dX8_again_93 (by decide) ?_
  refine ev_icmp_le 107 dX8_again_95 (by decide) (fun c1 => ?_) (fun c1 => ?_)
  · replace h := bv_tt c1 h
    refine ev_iload dX8_again_107 rfl ?_
    obtain rfl := Option.some.inj h
    exact ev_iret rfl dX8_again_109 ⟨rfl, rfl, rfl⟩
  · replace h := bv_ff c1 h
    refine ev_aload_n dX8_again_98 rfl ?_
    refine ev_ldc (-1000000002 : Int32) dX8_again_99 lc_X8_213 ?_
    obtain ⟨z2, hz2, h⟩ := bv_bd h
    refine er_VI [.int _] (fun _ _ q => q) lk_X8_73 dX8_again_101 rfl rfl rfl rfl rfl (wm_X8_error _ _ _ hz2) ?_
    refine ev_goto 109 dX8_again_104 (by decide) ?_
    obtain rfl := Option.some.inj h
    exact ev_iret rfl dX8_again_109 ⟨rfl, rfl, rfl⟩
set_option maxRecDepth 100000 in
set_option maxHeartbeats 4000000 in
theorem wb_X8_again_52  : ∀ (fu : Nat) (l2 : Int32) (l3 : Int32) (l4 : Int32) (mi : bv_Mem) (z : Int32 × bv_Mem), b_X8_again_52 fu l2 l3 l4 mi = some z → bv_Ev MX8_again bv_X0 2 74 74 (bv_QI z) 52 [some (.ref 61), none, some (.int l2), some (.int l3), some (.int l4)] [] 74 (bv_mr mi) mi := by
  intro fu
  induction fu with
  | zero =>
    intro l2 l3 l4 mi z h
    rw [b_X8_again_52] at h
    cases h
  | succ fu ih =>
    intro l2 l3 l4 mi z h
    rw [b_X8_again_52] at h
    refine ev_iload dX8_again_52 rfl ?_
    refine ev_bipush (100 : Int32) dX8_again_54 (by decide) ?_
    refine ev_icmp_gt 87 dX8_again_56 (by decide) (fun c1 => ?_) (fun c1 => ?_)
    · replace h := bv_tt c1 h
      exact ev_weak (by exact And.intro rfl (And.intro rfl (trivial))) (wb_X8_again_87  _ _ _ h)
    · replace h := bv_ff c1 h
      refine ev_aload_n dX8_again_59 rfl ?_
      refine ev_iload_n dX8_again_60 rfl ?_
      refine ev_aload_n dX8_again_61 rfl ?_
      refine ev_getR 62 lf_X8_9 dX8_again_62 rfl rfl rfl ?_
      refine ev_bipush (11 : Int32) dX8_again_65 (by decide) ?_
      refine ev_iload_n dX8_again_67 rfl ?_
      refine ev_iadd dX8_again_68 ?_
      obtain ⟨g1, h⟩ := bv_gd h
      refine ev_iald (N := 371) dX8_again_69 rfl g1 ?_
      refine ev_iload_n dX8_again_70 rfl ?_
      obtain ⟨z1, hz1, h⟩ := bv_bd h
      refine er_VP [.int _, .int _, .int _] (fun _ _ q => q) lk_X8_59 dX8_again_71 rfl rfl rfl rfl rfl (wm_X8_isSeen _ _ _ _ _ hz1) ?_
      refine ev_if_ne 87 dX8_again_74 (by decide) (fun c2 => ?_) (fun c2 => ?_)
      · replace h := bv_ff c2 h
        exact ev_weak (by exact And.intro rfl (And.intro rfl (trivial))) (wb_X8_again_87  _ _ _ h)
      · replace h := bv_tt c2 h
        refine ev_aload_n dX8_again_77 rfl ?_
        obtain ⟨z2, hz2, h⟩ := bv_bd h
        refine er_VV [] (fun _ _ q => q) lk_X8_190 dX8_again_78 rfl rfl rfl rfl rfl (wm_X8_day  _ _ hz2) ?_
        refine ev_iinc (l4 + 1) dX8_again_81 rfl rfl rfl rfl ?_
        refine ev_goto 52 dX8_again_84 (by decide) ?_
        exact ev_weak (by exact And.intro rfl (And.intro rfl (And.intro rfl (And.intro rfl (trivial))))) (ih _ _ _ _ _ h)
set_option maxRecDepth 100000 in
set_option maxHeartbeats 4000000 in
theorem we_X8_again   (l1 : Int32) (l2 : Int32) (mi : bv_Mem) (z : Int32 × bv_Mem) (h : f_X8_again  l1 l2 mi = some z) : bv_Ev MX8_again bv_X0 2 74 74 (bv_QI z) 0 [some (.ref 61), some (.int l1), some (.int l2), none, none] [] 74 (bv_mr mi) mi := by
  unfold f_X8_again at h
  refine ev_aload_n dX8_again_0 rfl ?_
  refine ev_iload_n dX8_again_1 rfl ?_
  obtain ⟨z1, hz1, h⟩ := bv_bd h
  refine er_VP [.int _] (fun _ _ q => q) lk_X8_86 dX8_again_2 rfl rfl rfl rfl rfl (wm_X8_isVillage _ _ _ hz1) ?_
  refine ev_if_eq 28 dX8_again_5 (by decide) (fun c1 => ?_) (fun c1 => ?_)
  · replace h := bv_tt c1 h
    refine ev_aload_n dX8_again_28 rfl ?_
    refine ev_ldc (-1000000001 : Int32) dX8_again_29 lc_X8_72 ?_
    obtain ⟨z2, hz2, h⟩ := bv_bd h
    refine er_VI [.int _] (fun _ _ q => q) lk_X8_73 dX8_again_31 rfl rfl rfl rfl rfl (wm_X8_error _ _ _ hz2) ?_
    obtain rfl := Option.some.inj h
    exact ev_iret rfl dX8_again_34 ⟨rfl, rfl, rfl⟩
  · replace h := bv_ff c1 h
    refine ev_iload_n dX8_again_8 rfl ?_
    obtain ⟨z3, hz3, h⟩ := bv_bd h
    refine er_SP [.int _] (fun _ _ q => q) lk_X8_69 dX8_again_9 rfl rfl rfl rfl (wm_X8_isPlace _ _ _ hz3) ?_
    refine ev_if_eq 28 dX8_again_12 (by decide) (fun c2 => ?_) (fun c2 => ?_)
    · replace h := bv_tt c2 h
      refine ev_aload_n dX8_again_28 rfl ?_
      refine ev_ldc (-1000000001 : Int32) dX8_again_29 lc_X8_72 ?_
      obtain ⟨z4, hz4, h⟩ := bv_bd h
      refine er_VI [.int _] (fun _ _ q => q) lk_X8_73 dX8_again_31 rfl rfl rfl rfl rfl (wm_X8_error _ _ _ hz4) ?_
      obtain rfl := Option.some.inj h
      exact ev_iret rfl dX8_again_34 ⟨rfl, rfl, rfl⟩
    · replace h := bv_ff c2 h
      refine ev_aload_n dX8_again_15 rfl ?_
      refine ev_getR 62 lf_X8_9 dX8_again_16 rfl rfl rfl ?_
      refine ev_bipush (6 : Int32) dX8_again_19 (by decide) ?_
      refine ev_iload_n dX8_again_21 rfl ?_
      refine ev_iadd dX8_again_22 ?_
      obtain ⟨g1, h⟩ := bv_gd h
      refine ev_iald (N := 371) dX8_again_23 rfl g1 ?_
      refine ev_iload_n dX8_again_24 rfl ?_
      refine ev_icmp_ne 35 dX8_again_25 (by decide) (fun c3 => ?_) (fun c3 => ?_)
      · replace h := bv_ff c3 h
        refine ev_aload_n dX8_again_35 rfl ?_
        obtain ⟨z5, hz5, h⟩ := bv_bd h
        refine er_VV [] (fun _ _ q => q) lk_X8_207 dX8_again_36 rfl rfl rfl rfl rfl (wm_X8_thinks  _ _ hz5) ?_
        refine ev_aload_n dX8_again_39 rfl ?_
        refine ev_getR 62 lf_X8_9 dX8_again_40 rfl rfl rfl ?_
        refine ev_bipush (6 : Int32) dX8_again_43 (by decide) ?_
        refine ev_iload_n dX8_again_45 rfl ?_
        refine ev_iadd dX8_again_46 ?_
        refine ev_iald (N := 371) dX8_again_47 rfl g1 ?_
        refine ev_istore_n dX8_again_48 rfl rfl ?_
        refine ev_iconst (0 : Int32) dX8_again_49 (by decide) ?_
        refine ev_istore dX8_again_50 rfl rfl ?_
        exact ev_weak (by exact And.intro rfl (And.intro rfl (And.intro rfl (And.intro rfl (trivial))))) (wb_X8_again_52  400 _ _ _ _ _ h)
      · replace h := bv_tt c3 h
        refine ev_aload_n dX8_again_28 rfl ?_
        refine ev_ldc (-1000000001 : Int32) dX8_again_29 lc_X8_72 ?_
        obtain ⟨z6, hz6, h⟩ := bv_bd h
        refine er_VI [.int _] (fun _ _ q => q) lk_X8_73 dX8_again_31 rfl rfl rfl rfl rfl (wm_X8_error _ _ _ hz6) ?_
        obtain rfl := Option.some.inj h
        exact ev_iret rfl dX8_again_34 ⟨rfl, rfl, rfl⟩
theorem wm_X8_again   (l1 : Int32) (l2 : Int32) (mi : bv_Mem) (z : Int32 × bv_Mem) (h : f_X8_again  l1 l2 mi = some z) : bv_Met yX8_again MX8_again bv_X0 2 74 74 [.ref 61, .int l1, .int l2] (bv_mr mi) mi (bv_QI z) :=
  bv_Met.of (pn_X 8 (by decide)) rfl (fun q => absurd q Bool.false_ne_true) (Nat.le_of_ble_eq_true rfl) (we_X8_again   l1 l2 mi z h)
set_option maxRecDepth 100000 in
set_option maxHeartbeats 4000000 in
theorem wb_X8_best_50 (k_23 : Int32 → Int32 → Int32 → Int32 → bv_Mem → Option (Int32 × bv_Mem)) (hk_23 : ∀ (l1 : Int32) (l2 : Int32) (l3 : Int32) (l4 : Int32) (mi : bv_Mem) (z : Int32 × bv_Mem), k_23 l1 l2 l3 l4 mi = some z → bv_Ev MX8_best bv_X0 4 74 74 (bv_QI z) 23 [some (.ref 61), some (.int l1), some (.int l2), some (.int l3), some (.int l4), none] [] 74 (bv_mr mi) mi) (l1 : Int32) (l3 : Int32) (l4 : Int32) (l5 : Int32) (s0 : Int32) (mi : bv_Mem) (z : Int32 × bv_Mem) (h : b_X8_best_50 k_23 l1 l3 l4 l5 s0 mi = some z) : bv_Ev MX8_best bv_X0 4 74 74 (bv_QI z) 50 [some (.ref 61), some (.int l1), none, some (.int l3), some (.int l4), some (.int l5)] [.int s0] 74 (bv_mr mi) mi := by
  unfold b_X8_best_50 at h
  refine ev_istore_n dX8_best_50 rfl rfl ?_
  refine ev_iload dX8_best_51 rfl ?_
  refine ev_iload_n dX8_best_53 rfl ?_
  refine ev_icmp_le 62 dX8_best_54 (by decide) (fun c1 => ?_) (fun c1 => ?_)
  · replace h := bv_tt c1 h
    refine ev_iload_n dX8_best_62 rfl ?_
    refine ev_istore_n dX8_best_63 rfl rfl ?_
    refine ev_iinc (l4 + 1) dX8_best_64 rfl rfl rfl rfl ?_
    refine ev_goto 23 dX8_best_67 (by decide) ?_
    exact ev_weak (by exact And.intro rfl (And.intro rfl (And.intro rfl (And.intro rfl (And.intro rfl (trivial)))))) (hk_23 _ _ _ _ _ _ h)
  · replace h := bv_ff c1 h
    refine ev_iload dX8_best_57 rfl ?_
    refine ev_goto 63 dX8_best_59 (by decide) ?_
    refine ev_istore_n dX8_best_63 rfl rfl ?_
    refine ev_iinc (l4 + 1) dX8_best_64 rfl rfl rfl rfl ?_
    refine ev_goto 23 dX8_best_67 (by decide) ?_
    exact ev_weak (by exact And.intro rfl (And.intro rfl (And.intro rfl (And.intro rfl (And.intro rfl (trivial)))))) (hk_23 _ _ _ _ _ _ h)
set_option maxRecDepth 100000 in
set_option maxHeartbeats 4000000 in
theorem wb_X8_best_23  : ∀ (fu : Nat) (l1 : Int32) (l2 : Int32) (l3 : Int32) (l4 : Int32) (mi : bv_Mem) (z : Int32 × bv_Mem), b_X8_best_23 fu l1 l2 l3 l4 mi = some z → bv_Ev MX8_best bv_X0 4 74 74 (bv_QI z) 23 [some (.ref 61), some (.int l1), some (.int l2), some (.int l3), some (.int l4), none] [] 74 (bv_mr mi) mi := by
  intro fu
  induction fu with
  | zero =>
    intro l1 l2 l3 l4 mi z h
    rw [b_X8_best_23] at h
    cases h
  | succ fu ih =>
    intro l1 l2 l3 l4 mi z h
    rw [b_X8_best_23] at h
    refine ev_iload dX8_best_23 rfl ?_
    refine ev_bipush (20 : Int32) dX8_best_25 (by decide) ?_
    refine ev_icmp_ge 70 dX8_best_27 (by decide) (fun c1 => ?_) (fun c1 => ?_)
    · replace h := bv_tt c1 h
      refine ev_iload_n dX8_best_70 rfl ?_
      refine ev_if_ne 78 dX8_best_71 (by decide) (fun c2 => ?_) (fun c2 => ?_)
      · replace h := bv_ff c2 h
        refine ev_iload_n dX8_best_78 rfl ?_
        obtain rfl := Option.some.inj h
        exact ev_iret rfl dX8_best_79 ⟨rfl, rfl, rfl⟩
      · replace h := bv_tt c2 h
        refine ev_iload_n dX8_best_74 rfl ?_
        refine ev_goto 79 dX8_best_75 (by decide) ?_
        obtain rfl := Option.some.inj h
        exact ev_iret rfl dX8_best_79 ⟨rfl, rfl, rfl⟩
    · replace h := bv_ff c1 h
      refine ev_aload_n dX8_best_30 rfl ?_
      refine ev_iload dX8_best_31 rfl ?_
      obtain ⟨z1, hz1, h⟩ := bv_bd h
      refine er_VP [.int _] (fun _ _ q => q) lk_X8_79 dX8_best_33 rfl rfl rfl rfl rfl (wm_X8_sightsOf _ _ _ hz1) ?_
      refine ev_istore dX8_best_36 rfl rfl ?_
      refine ev_iload dX8_best_38 rfl ?_
      refine ev_iload_n dX8_best_40 rfl ?_
      refine ev_icmp_le 49 dX8_best_41 (by decide) (fun c3 => ?_) (fun c3 => ?_)
      · replace h := bv_tt c3 h
        refine ev_iload_n dX8_best_49 rfl ?_
        exact ev_weak (by exact And.intro rfl (And.intro rfl (And.intro rfl (And.intro rfl (And.intro rfl (trivial)))))) (wb_X8_best_50 (b_X8_best_23 fu) ih _ _ _ _ _ _ _ h)
      · replace h := bv_ff c3 h
        refine ev_iload dX8_best_44 rfl ?_
        refine ev_goto 50 dX8_best_46 (by decide) ?_
        exact ev_weak (by exact And.intro rfl (And.intro rfl (And.intro rfl (And.intro rfl (And.intro rfl (trivial)))))) (wb_X8_best_50 (b_X8_best_23 fu) ih _ _ _ _ _ _ _ h)
set_option maxRecDepth 100000 in
set_option maxHeartbeats 4000000 in
theorem we_X8_best   (l1 : Int32) (mi : bv_Mem) (z : Int32 × bv_Mem) (h : f_X8_best  l1 mi = some z) : bv_Ev MX8_best bv_X0 4 74 74 (bv_QI z) 0 [some (.ref 61), some (.int l1), none, none, none, none] [] 74 (bv_mr mi) mi := by
  unfold f_X8_best at h
  refine ev_iload_n dX8_best_0 rfl ?_
  refine ev_iconst (0 : Int32) dX8_best_1 (by decide) ?_
  refine ev_iconst (1 : Int32) dX8_best_2 (by decide) ?_
  obtain ⟨z1, hz1, h⟩ := bv_bd h
  refine er_SP [.int _, .int _, .int _] (fun _ _ q => q) lk_X8_47 dX8_best_3 rfl rfl rfl rfl (wm_X8_in _ _ _ _ _ hz1) ?_
  refine ev_if_ne 16 dX8_best_6 (by decide) (fun c1 => ?_) (fun c1 => ?_)
  · replace h := bv_ff c1 h
    refine ev_iconst (0 : Int32) dX8_best_16 (by decide) ?_
    refine ev_istore_n dX8_best_17 rfl rfl ?_
    refine ev_iconst (-1 : Int32) dX8_best_18 (by decide) ?_
    refine ev_istore_n dX8_best_19 rfl rfl ?_
    refine ev_iconst (0 : Int32) dX8_best_20 (by decide) ?_
    refine ev_istore dX8_best_21 rfl rfl ?_
    exact ev_weak (by exact And.intro rfl (And.intro rfl (And.intro rfl (And.intro rfl (And.intro rfl (trivial)))))) (wb_X8_best_23  400 _ _ _ _ _ _ h)
  · replace h := bv_tt c1 h
    refine ev_aload_n dX8_best_9 rfl ?_
    refine ev_ldc (-1000000001 : Int32) dX8_best_10 lc_X8_72 ?_
    obtain ⟨z2, hz2, h⟩ := bv_bd h
    refine er_VI [.int _] (fun _ _ q => q) lk_X8_73 dX8_best_12 rfl rfl rfl rfl rfl (wm_X8_error _ _ _ hz2) ?_
    obtain rfl := Option.some.inj h
    exact ev_iret rfl dX8_best_15 ⟨rfl, rfl, rfl⟩
theorem wm_X8_best   (l1 : Int32) (mi : bv_Mem) (z : Int32 × bv_Mem) (h : f_X8_best  l1 mi = some z) : bv_Met yX8_best MX8_best bv_X0 4 74 74 [.ref 61, .int l1] (bv_mr mi) mi (bv_QI z) :=
  bv_Met.of (pn_X 8 (by decide)) rfl (fun q => absurd q Bool.false_ne_true) (Nat.le_of_ble_eq_true rfl) (we_X8_best   l1 mi z h)
set_option maxRecDepth 100000 in
set_option maxHeartbeats 4000000 in
theorem wb_X8_tower_28  : ∀ (fu : Nat) (l1 : Int32) (l2 : Int32) (l3 : Int32) (mi : bv_Mem) (z : Int32 × bv_Mem), b_X8_tower_28 fu l1 l2 l3 mi = some z → bv_Ev MX8_tower bv_X0 2 74 74 (bv_QI z) 28 [some (.ref 61), some (.int l1), some (.int l2), some (.int l3)] [] 74 (bv_mr mi) mi := by
  intro fu
  induction fu with
  | zero =>
    intro l1 l2 l3 mi z h
    rw [b_X8_tower_28] at h
    cases h
  | succ fu ih =>
    intro l1 l2 l3 mi z h
    rw [b_X8_tower_28] at h
    refine ev_iload_n dX8_tower_28 rfl ?_
    refine ev_bipush (40 : Int32) dX8_tower_29 (by decide) ?_
    refine ev_icmp_gt 62 dX8_tower_31 (by decide) (fun c1 => ?_) (fun c1 => ?_)
    · replace h := bv_tt c1 h
      refine ev_aload_n dX8_tower_62 rfl ?_
      refine ev_ldc (-1000000002 : Int32) dX8_tower_63 lc_X8_213 ?_
      obtain ⟨z1, hz1, h⟩ := bv_bd h
      refine er_VI [.int _] (fun _ _ q => q) lk_X8_73 dX8_tower_65 rfl rfl rfl rfl rfl (wm_X8_error _ _ _ hz1) ?_
      obtain rfl := Option.some.inj h
      exact ev_iret rfl dX8_tower_68 ⟨rfl, rfl, rfl⟩
    · replace h := bv_ff c1 h
      refine ev_aload_n dX8_tower_34 rfl ?_
      refine ev_iload_n dX8_tower_35 rfl ?_
      refine ev_aload_n dX8_tower_36 rfl ?_
      refine ev_getR 62 lf_X8_9 dX8_tower_37 rfl rfl rfl ?_
      refine ev_bipush (11 : Int32) dX8_tower_40 (by decide) ?_
      refine ev_iload_n dX8_tower_42 rfl ?_
      refine ev_iadd dX8_tower_43 ?_
      obtain ⟨g1, h⟩ := bv_gd h
      refine ev_iald (N := 371) dX8_tower_44 rfl g1 ?_
      refine ev_iload_n dX8_tower_45 rfl ?_
      refine ev_iadd dX8_tower_46 ?_
      refine ev_iload_n dX8_tower_47 rfl ?_
      obtain ⟨z2, hz2, h⟩ := bv_bd h
      refine er_VP [.int _, .int _, .int _] (fun _ _ q => q) lk_X8_59 dX8_tower_48 rfl rfl rfl rfl rfl (wm_X8_isSeen _ _ _ _ _ hz2) ?_
      refine ev_if_eq 56 dX8_tower_51 (by decide) (fun c2 => ?_) (fun c2 => ?_)
      · replace h := bv_tt c2 h
        refine ev_iinc (l3 + 1) dX8_tower_56 rfl rfl rfl rfl ?_
        refine ev_goto 28 dX8_tower_59 (by decide) ?_
        exact ev_weak (by exact And.intro rfl (And.intro rfl (And.intro rfl (And.intro rfl (trivial))))) (ih _ _ _ _ _ h)
      · replace h := bv_ff c2 h
        refine ev_iload_n dX8_tower_54 rfl ?_
        obtain rfl := Option.some.inj h
        exact ev_iret rfl dX8_tower_55 ⟨rfl, rfl, rfl⟩
set_option maxRecDepth 100000 in
set_option maxHeartbeats 4000000 in
theorem we_X8_tower   (l1 : Int32) (l2 : Int32) (mi : bv_Mem) (z : Int32 × bv_Mem) (h : f_X8_tower  l1 l2 mi = some z) : bv_Ev MX8_tower bv_X0 2 74 74 (bv_QI z) 0 [some (.ref 61), some (.int l1), some (.int l2), none] [] 74 (bv_mr mi) mi := by
  unfold f_X8_tower at h
  refine ev_iload_n dX8_tower_0 rfl ?_
  obtain ⟨z1, hz1, h⟩ := bv_bd h
  refine er_SP [.int _] (fun _ _ q => q) lk_X8_69 dX8_tower_1 rfl rfl rfl rfl (wm_X8_isPlace _ _ _ hz1) ?_
  refine ev_if_eq 19 dX8_tower_4 (by decide) (fun c1 => ?_) (fun c1 => ?_)
  · replace h := bv_tt c1 h
    refine ev_aload_n dX8_tower_19 rfl ?_
    refine ev_ldc (-1000000001 : Int32) dX8_tower_20 lc_X8_72 ?_
    obtain ⟨z2, hz2, h⟩ := bv_bd h
    refine er_VI [.int _] (fun _ _ q => q) lk_X8_73 dX8_tower_22 rfl rfl rfl rfl rfl (wm_X8_error _ _ _ hz2) ?_
    obtain rfl := Option.some.inj h
    exact ev_iret rfl dX8_tower_25 ⟨rfl, rfl, rfl⟩
  · replace h := bv_ff c1 h
    refine ev_iload_n dX8_tower_7 rfl ?_
    obtain ⟨z3, hz3, h⟩ := bv_bd h
    refine er_SP [.int _] (fun _ _ q => q) lk_X8_69 dX8_tower_8 rfl rfl rfl rfl (wm_X8_isPlace _ _ _ hz3) ?_
    refine ev_if_eq 19 dX8_tower_11 (by decide) (fun c2 => ?_) (fun c2 => ?_)
    · replace h := bv_tt c2 h
      refine ev_aload_n dX8_tower_19 rfl ?_
      refine ev_ldc (-1000000001 : Int32) dX8_tower_20 lc_X8_72 ?_
      obtain ⟨z4, hz4, h⟩ := bv_bd h
      refine er_VI [.int _] (fun _ _ q => q) lk_X8_73 dX8_tower_22 rfl rfl rfl rfl rfl (wm_X8_error _ _ _ hz4) ?_
      obtain rfl := Option.some.inj h
      exact ev_iret rfl dX8_tower_25 ⟨rfl, rfl, rfl⟩
    · replace h := bv_ff c2 h
      refine ev_iload_n dX8_tower_14 rfl ?_
      refine ev_iload_n dX8_tower_15 rfl ?_
      refine ev_icmp_ne 26 dX8_tower_16 (by decide) (fun c3 => ?_) (fun c3 => ?_)
      · replace h := bv_ff c3 h
        refine ev_iconst (0 : Int32) dX8_tower_26 (by decide) ?_
        refine ev_istore_n dX8_tower_27 rfl rfl ?_
        exact ev_weak (by exact And.intro rfl (And.intro rfl (And.intro rfl (And.intro rfl (trivial))))) (wb_X8_tower_28  400 _ _ _ _ _ h)
      · replace h := bv_tt c3 h
        refine ev_aload_n dX8_tower_19 rfl ?_
        refine ev_ldc (-1000000001 : Int32) dX8_tower_20 lc_X8_72 ?_
        obtain ⟨z5, hz5, h⟩ := bv_bd h
        refine er_VI [.int _] (fun _ _ q => q) lk_X8_73 dX8_tower_22 rfl rfl rfl rfl rfl (wm_X8_error _ _ _ hz5) ?_
        obtain rfl := Option.some.inj h
        exact ev_iret rfl dX8_tower_25 ⟨rfl, rfl, rfl⟩
theorem wm_X8_tower   (l1 : Int32) (l2 : Int32) (mi : bv_Mem) (z : Int32 × bv_Mem) (h : f_X8_tower  l1 l2 mi = some z) : bv_Met yX8_tower MX8_tower bv_X0 2 74 74 [.ref 61, .int l1, .int l2] (bv_mr mi) mi (bv_QI z) :=
  bv_Met.of (pn_X 8 (by decide)) rfl (fun q => absurd q Bool.false_ne_true) (Nat.le_of_ble_eq_true rfl) (we_X8_tower   l1 l2 mi z h)
set_option maxRecDepth 100000 in
set_option maxHeartbeats 4000000 in
theorem we_X8_sees   (l1 : Int32) (l2 : Int32) (mi : bv_Mem) (z : Int32) (h : f_X8_sees  l1 l2 mi = some z) : bv_Ev MX8_sees bv_X0 2 74 74 (bv_QP z mi) 0 [some (.ref 61), some (.int l1), some (.int l2), none] [] 74 (bv_mr mi) mi := by
  unfold f_X8_sees at h
  refine ev_aload_n dX8_sees_0 rfl ?_
  refine ev_getR 62 lf_X8_9 dX8_sees_1 rfl rfl rfl ?_
  refine ev_bipush (6 : Int32) dX8_sees_4 (by decide) ?_
  refine ev_iload_n dX8_sees_6 rfl ?_
  refine ev_iadd dX8_sees_7 ?_
  obtain ⟨g1, h⟩ := bv_gd h
  refine ev_iald (N := 371) dX8_sees_8 rfl g1 ?_
  refine ev_istore_n dX8_sees_9 rfl rfl ?_
  refine ev_aload_n dX8_sees_10 rfl ?_
  refine ev_iload_n dX8_sees_11 rfl ?_
  refine ev_aload_n dX8_sees_12 rfl ?_
  refine ev_getR 62 lf_X8_9 dX8_sees_13 rfl rfl rfl ?_
  refine ev_bipush (11 : Int32) dX8_sees_16 (by decide) ?_
  refine ev_iload_n dX8_sees_18 rfl ?_
  refine ev_iadd dX8_sees_19 ?_
  obtain ⟨g2, h⟩ := bv_gd h
  refine ev_iald (N := 371) dX8_sees_20 rfl g2 ?_
  refine ev_iload_n dX8_sees_21 rfl ?_
  obtain ⟨z1, hz1, h⟩ := bv_bd h
  refine er_VP [.int _, .int _, .int _] (fun _ _ q => q) lk_X8_59 dX8_sees_22 rfl rfl rfl rfl rfl (wm_X8_isSeen _ _ _ _ _ hz1) ?_
  obtain ⟨g3, h⟩ := bv_gd h
  obtain rfl := Option.some.inj h
  exact ev_zret rfl g3 dX8_sees_25 ⟨rfl, rfl, rfl⟩
theorem wm_X8_sees   (l1 : Int32) (l2 : Int32) (mi : bv_Mem) (z : Int32) (h : f_X8_sees  l1 l2 mi = some z) : bv_Met yX8_sees MX8_sees bv_X0 2 74 74 [.ref 61, .int l1, .int l2] (bv_mr mi) mi (bv_QP z mi) :=
  bv_Met.of (pn_X 8 (by decide)) rfl (fun q => absurd q Bool.false_ne_true) (Nat.le_of_ble_eq_true rfl) (we_X8_sees   l1 l2 mi z h)
set_option maxRecDepth 100000 in
set_option maxHeartbeats 4000000 in
theorem wb_X8_mutual_18 (mi : bv_Mem) (k_4 : Int32 → Int32 → Option (Int32)) (hk_4 : ∀ (l1 : Int32) (l2 : Int32) (z : Int32), k_4 l1 l2 = some z → bv_Ev MX8_mutual bv_X0 3 74 74 (bv_QP z mi) 4 [some (.ref 61), some (.int l1), some (.int l2), none] [] 74 (bv_mr mi) mi) : ∀ (fu : Nat) (l1 : Int32) (l2 : Int32) (l3 : Int32) (z : Int32), b_X8_mutual_18 mi k_4 fu l1 l2 l3 = some z → bv_Ev MX8_mutual bv_X0 3 74 74 (bv_QP z mi) 18 [some (.ref 61), some (.int l1), some (.int l2), some (.int l3)] [] 74 (bv_mr mi) mi := by
  intro fu
  induction fu with
  | zero =>
    intro l1 l2 l3 z h
    rw [b_X8_mutual_18] at h
    cases h
  | succ fu ih =>
    intro l1 l2 l3 z h
    rw [b_X8_mutual_18] at h
    refine ev_iload_n dX8_mutual_18 rfl ?_
    refine ev_aload_n dX8_mutual_19 rfl ?_
    refine ev_getR 62 lf_X8_9 dX8_mutual_20 rfl rfl rfl ?_
    refine ev_iconst (2 : Int32) dX8_mutual_23 (by decide) ?_
    refine er_ialdk (N := 371) 2 dX8_mutual_24 rfl rfl rfl ?_
    refine ev_icmp_ge 76 dX8_mutual_25 (by decide) (fun c1 => ?_) (fun c1 => ?_)
    · replace h := bv_tt c1 h
      refine ev_iinc (l2 + 1) dX8_mutual_76 rfl rfl rfl rfl ?_
      refine ev_goto 4 dX8_mutual_79 (by decide) ?_
      exact ev_weak (by exact And.intro rfl (And.intro rfl (And.intro rfl (trivial)))) (hk_4 _ _ _ h)
    · replace h := bv_ff c1 h
      refine ev_iload_n dX8_mutual_28 rfl ?_
      refine ev_aload_n dX8_mutual_29 rfl ?_
      refine ev_iload_n dX8_mutual_30 rfl ?_
      refine ev_aload_n dX8_mutual_31 rfl ?_
      refine ev_getR 62 lf_X8_9 dX8_mutual_32 rfl rfl rfl ?_
      refine ev_bipush (6 : Int32) dX8_mutual_35 (by decide) ?_
      refine ev_iload_n dX8_mutual_37 rfl ?_
      refine ev_iadd dX8_mutual_38 ?_
      obtain ⟨g1, h⟩ := bv_gd h
      refine ev_iald (N := 371) dX8_mutual_39 rfl g1 ?_
      obtain ⟨z1, hz1, h⟩ := bv_bd h
      refine er_VP [.int _, .int _] (fun _ _ q => q) lk_X8_214 dX8_mutual_40 rfl rfl rfl rfl rfl (wm_X8_sees _ _ _ _ hz1) ?_
      refine ev_if_eq 67 dX8_mutual_43 (by decide) (fun c2 => ?_) (fun c2 => ?_)
      · replace h := bv_tt c2 h
        refine ev_iconst (0 : Int32) dX8_mutual_67 (by decide) ?_
        refine ev_iadd dX8_mutual_68 ?_
        refine ev_istore_n dX8_mutual_69 rfl rfl ?_
        refine ev_iinc (l3 + 1) dX8_mutual_70 rfl rfl rfl rfl ?_
        refine ev_goto 18 dX8_mutual_73 (by decide) ?_
        exact ev_weak (by exact And.intro rfl (And.intro rfl (And.intro rfl (And.intro rfl (trivial))))) (ih _ _ _ _ h)
      · replace h := bv_ff c2 h
        refine ev_aload_n dX8_mutual_46 rfl ?_
        refine ev_iload_n dX8_mutual_47 rfl ?_
        refine ev_aload_n dX8_mutual_48 rfl ?_
        refine ev_getR 62 lf_X8_9 dX8_mutual_49 rfl rfl rfl ?_
        refine ev_bipush (6 : Int32) dX8_mutual_52 (by decide) ?_
        refine ev_iload_n dX8_mutual_54 rfl ?_
        refine ev_iadd dX8_mutual_55 ?_
        obtain ⟨g2, h⟩ := bv_gd h
        refine ev_iald (N := 371) dX8_mutual_56 rfl g2 ?_
        obtain ⟨z2, hz2, h⟩ := bv_bd h
        refine er_VP [.int _, .int _] (fun _ _ q => q) lk_X8_214 dX8_mutual_57 rfl rfl rfl rfl rfl (wm_X8_sees _ _ _ _ hz2) ?_
        refine ev_if_eq 67 dX8_mutual_60 (by decide) (fun c3 => ?_) (fun c3 => ?_)
        · replace h := bv_tt c3 h
          refine ev_iconst (0 : Int32) dX8_mutual_67 (by decide) ?_
          refine ev_iadd dX8_mutual_68 ?_
          refine ev_istore_n dX8_mutual_69 rfl rfl ?_
          refine ev_iinc (l3 + 1) dX8_mutual_70 rfl rfl rfl rfl ?_
          refine ev_goto 18 dX8_mutual_73 (by decide) ?_
          exact ev_weak (by exact And.intro rfl (And.intro rfl (And.intro rfl (And.intro rfl (trivial))))) (ih _ _ _ _ h)
        · replace h := bv_ff c3 h
          refine ev_iconst (1 : Int32) dX8_mutual_63 (by decide) ?_
          refine ev_goto 68 dX8_mutual_64 (by decide) ?_
          refine ev_iadd dX8_mutual_68 ?_
          refine ev_istore_n dX8_mutual_69 rfl rfl ?_
          refine ev_iinc (l3 + 1) dX8_mutual_70 rfl rfl rfl rfl ?_
          refine ev_goto 18 dX8_mutual_73 (by decide) ?_
          exact ev_weak (by exact And.intro rfl (And.intro rfl (And.intro rfl (And.intro rfl (trivial))))) (ih _ _ _ _ h)
set_option maxRecDepth 100000 in
set_option maxHeartbeats 4000000 in
theorem wb_X8_mutual_4 (mi : bv_Mem) : ∀ (fu : Nat) (l1 : Int32) (l2 : Int32) (z : Int32), b_X8_mutual_4 mi fu l1 l2 = some z → bv_Ev MX8_mutual bv_X0 3 74 74 (bv_QP z mi) 4 [some (.ref 61), some (.int l1), some (.int l2), none] [] 74 (bv_mr mi) mi := by
  intro fu
  induction fu with
  | zero =>
    intro l1 l2 z h
    rw [b_X8_mutual_4] at h
    cases h
  | succ fu ih =>
    intro l1 l2 z h
    rw [b_X8_mutual_4] at h
    refine ev_iload_n dX8_mutual_4 rfl ?_
    refine ev_aload_n dX8_mutual_5 rfl ?_
    refine ev_getR 62 lf_X8_9 dX8_mutual_6 rfl rfl rfl ?_
    refine ev_iconst (2 : Int32) dX8_mutual_9 (by decide) ?_
    refine er_ialdk (N := 371) 2 dX8_mutual_10 rfl rfl rfl ?_
    refine ev_icmp_ge 82 dX8_mutual_11 (by decide) (fun c1 => ?_) (fun c1 => ?_)
    · replace h := bv_tt c1 h
      refine ev_iload_n dX8_mutual_82 rfl ?_
      obtain rfl := Option.some.inj h
      exact ev_iret rfl dX8_mutual_83 ⟨rfl, rfl, rfl⟩
    · replace h := bv_ff c1 h
      refine ev_iload_n dX8_mutual_14 rfl ?_
      refine ev_iconst (1 : Int32) dX8_mutual_15 (by decide) ?_
      refine ev_iadd dX8_mutual_16 ?_
      refine ev_istore_n dX8_mutual_17 rfl rfl ?_
      exact ev_weak (by exact And.intro rfl (And.intro rfl (And.intro rfl (And.intro rfl (trivial))))) (wb_X8_mutual_18 mi (b_X8_mutual_4 mi fu) ih 400 _ _ _ _ h)
set_option maxRecDepth 100000 in
set_option maxHeartbeats 4000000 in
theorem we_X8_mutual    (mi : bv_Mem) (z : Int32) (h : f_X8_mutual  mi = some z) : bv_Ev MX8_mutual bv_X0 3 74 74 (bv_QP z mi) 0 [some (.ref 61), none, none, none] [] 74 (bv_mr mi) mi := by
  unfold f_X8_mutual at h
  refine ev_iconst (0 : Int32) dX8_mutual_0 (by decide) ?_
  refine ev_istore_n dX8_mutual_1 rfl rfl ?_
  refine ev_iconst (0 : Int32) dX8_mutual_2 (by decide) ?_
  refine ev_istore_n dX8_mutual_3 rfl rfl ?_
  exact ev_weak (by exact And.intro rfl (And.intro rfl (And.intro rfl (trivial)))) (wb_X8_mutual_4 mi 400 _ _ _ h)
theorem wm_X8_mutual    (mi : bv_Mem) (z : Int32) (h : f_X8_mutual  mi = some z) : bv_Met yX8_mutual MX8_mutual bv_X0 3 74 74 [.ref 61] (bv_mr mi) mi (bv_QP z mi) :=
  bv_Met.of (pn_X 8 (by decide)) rfl (fun q => absurd q Bool.false_ne_true) (Nat.le_of_ble_eq_true rfl) (we_X8_mutual   mi z h)
set_option maxRecDepth 100000 in
set_option maxHeartbeats 4000000 in
theorem wb_X8_unseen_4 (mi : bv_Mem) : ∀ (fu : Nat) (l1 : Int32) (l2 : Int32) (z : Int32), b_X8_unseen_4 mi fu l1 l2 = some z → bv_Ev MX8_unseen bv_X0 3 74 74 (bv_QP z mi) 4 [some (.ref 61), some (.int l1), some (.int l2), none] [] 74 (bv_mr mi) mi := by
  intro fu
  induction fu with
  | zero =>
    intro l1 l2 z h
    rw [b_X8_unseen_4] at h
    cases h
  | succ fu ih =>
    intro l1 l2 z h
    rw [b_X8_unseen_4] at h
    refine ev_iload_n dX8_unseen_4 rfl ?_
    refine ev_aload_n dX8_unseen_5 rfl ?_
    refine ev_getR 62 lf_X8_9 dX8_unseen_6 rfl rfl rfl ?_
    refine ev_iconst (2 : Int32) dX8_unseen_9 (by decide) ?_
    refine er_ialdk (N := 371) 2 dX8_unseen_10 rfl rfl rfl ?_
    refine ev_icmp_ge 50 dX8_unseen_11 (by decide) (fun c1 => ?_) (fun c1 => ?_)
    · replace h := bv_tt c1 h
      refine ev_ldc (1048575 : Int32) dX8_unseen_50 lc_X8_109 ?_
      refine ev_iload_n dX8_unseen_52 rfl ?_
      refine ev_iconst (-1 : Int32) dX8_unseen_53 (by decide) ?_
      refine ev_ixor dX8_unseen_54 ?_
      refine ev_iand dX8_unseen_55 ?_
      obtain rfl := Option.some.inj h
      exact ev_iret rfl dX8_unseen_56 ⟨rfl, rfl, rfl⟩
    · replace h := bv_ff c1 h
      refine ev_aload_n dX8_unseen_14 rfl ?_
      refine ev_getR 62 lf_X8_9 dX8_unseen_15 rfl rfl rfl ?_
      refine ev_bipush (6 : Int32) dX8_unseen_18 (by decide) ?_
      refine ev_iload_n dX8_unseen_20 rfl ?_
      refine ev_iadd dX8_unseen_21 ?_
      obtain ⟨g1, h⟩ := bv_gd h
      refine ev_iald (N := 371) dX8_unseen_22 rfl g1 ?_
      refine ev_istore_n dX8_unseen_23 rfl rfl ?_
      refine ev_iload_n dX8_unseen_24 rfl ?_
      refine ev_iconst (1 : Int32) dX8_unseen_25 (by decide) ?_
      refine ev_iload_n dX8_unseen_26 rfl ?_
      refine ev_ishl dX8_unseen_27 ?_
      refine ev_aload_n dX8_unseen_28 rfl ?_
      refine ev_iload_n dX8_unseen_29 rfl ?_
      refine ev_iconst (0 : Int32) dX8_unseen_30 (by decide) ?_
      obtain ⟨z1, hz1, h⟩ := bv_bd h
      refine er_VP [.int _, .int _] (fun _ _ q => q) lk_X8_62 dX8_unseen_31 rfl rfl rfl rfl rfl (wm_X8_viewOf _ _ _ _ hz1) ?_
      refine ev_ior dX8_unseen_34 ?_
      refine ev_aload_n dX8_unseen_35 rfl ?_
      refine ev_iload_n dX8_unseen_36 rfl ?_
      refine ev_iconst (1 : Int32) dX8_unseen_37 (by decide) ?_
      obtain ⟨z2, hz2, h⟩ := bv_bd h
      refine er_VP [.int _, .int _] (fun _ _ q => q) lk_X8_62 dX8_unseen_38 rfl rfl rfl rfl rfl (wm_X8_viewOf _ _ _ _ hz2) ?_
      refine ev_ior dX8_unseen_41 ?_
      refine ev_ior dX8_unseen_42 ?_
      refine ev_istore_n dX8_unseen_43 rfl rfl ?_
      refine ev_iinc (l2 + 1) dX8_unseen_44 rfl rfl rfl rfl ?_
      refine ev_goto 4 dX8_unseen_47 (by decide) ?_
      exact ev_weak (by exact And.intro rfl (And.intro rfl (And.intro rfl (trivial)))) (ih _ _ _ h)
set_option maxRecDepth 100000 in
set_option maxHeartbeats 4000000 in
theorem we_X8_unseen    (mi : bv_Mem) (z : Int32) (h : f_X8_unseen  mi = some z) : bv_Ev MX8_unseen bv_X0 3 74 74 (bv_QP z mi) 0 [some (.ref 61), none, none, none] [] 74 (bv_mr mi) mi := by
  unfold f_X8_unseen at h
  refine ev_iconst (0 : Int32) dX8_unseen_0 (by decide) ?_
  refine ev_istore_n dX8_unseen_1 rfl rfl ?_
  refine ev_iconst (0 : Int32) dX8_unseen_2 (by decide) ?_
  refine ev_istore_n dX8_unseen_3 rfl rfl ?_
  exact ev_weak (by exact And.intro rfl (And.intro rfl (And.intro rfl (trivial)))) (wb_X8_unseen_4 mi 400 _ _ _ h)
theorem wm_X8_unseen    (mi : bv_Mem) (z : Int32) (h : f_X8_unseen  mi = some z) : bv_Met yX8_unseen MX8_unseen bv_X0 3 74 74 [.ref 61] (bv_mr mi) mi (bv_QP z mi) :=
  bv_Met.of (pn_X 8 (by decide)) rfl (fun q => absurd q Bool.false_ne_true) (Nat.le_of_ble_eq_true rfl) (we_X8_unseen   mi z h)
set_option maxRecDepth 100000 in
set_option maxHeartbeats 4000000 in
theorem wb_X8_cover_110 (k_21 : Int32 → Int32 → Int32 → bv_Mem → Option (Int32 × bv_Mem)) (hk_21 : ∀ (l1 : Int32) (l2 : Int32) (l3 : Int32) (mi : bv_Mem) (z : Int32 × bv_Mem), k_21 l1 l2 l3 mi = some z → bv_Ev MX8_cover bv_X0 3 74 74 (bv_QI z) 21 [some (.ref 61), some (.int l1), some (.int l2), some (.int l3), none, none] [] 74 (bv_mr mi) mi) (l1 : Int32) (l2 : Int32) (l3 : Int32) (s0 : Int32) (mi : bv_Mem) (z : Int32 × bv_Mem) (h : b_X8_cover_110 k_21 l1 l2 l3 s0 mi = some z) : bv_Ev MX8_cover bv_X0 3 74 74 (bv_QI z) 110 [some (.ref 61), some (.int l1), some (.int l2), some (.int l3), none, none] [.int s0] 74 (bv_mr mi) mi := by
  unfold b_X8_cover_110 at h
  refine ev_istore dX8_cover_110 rfl rfl ?_
  refine ev_iload dX8_cover_112 rfl ?_
  refine ev_if_eq 121 dX8_cover_114 (by decide) (fun c1 => ?_) (fun c1 => ?_)
  · replace h := bv_tt c1 h
    refine ev_iload_n dX8_cover_121 rfl ?_
    refine ev_istore_n dX8_cover_122 rfl rfl ?_
    refine ev_iinc (l3 + 1) dX8_cover_123 rfl rfl rfl rfl ?_
    refine ev_goto 21 dX8_cover_126 (by decide) ?_
    exact ev_weak (by exact And.intro rfl (And.intro rfl (And.intro rfl (And.intro rfl (trivial))))) (hk_21 _ _ _ _ _ h)
  · replace h := bv_ff c1 h
    refine ev_iload_n dX8_cover_117 rfl ?_
    refine ev_goto 122 dX8_cover_118 (by decide) ?_
    refine ev_istore_n dX8_cover_122 rfl rfl ?_
    refine ev_iinc (l3 + 1) dX8_cover_123 rfl rfl rfl rfl ?_
    refine ev_goto 21 dX8_cover_126 (by decide) ?_
    exact ev_weak (by exact And.intro rfl (And.intro rfl (And.intro rfl (And.intro rfl (trivial))))) (hk_21 _ _ _ _ _ h)
set_option maxRecDepth 100000 in
set_option maxHeartbeats 4000000 in
theorem wb_X8_cover_109 (k_21 : Int32 → Int32 → Int32 → bv_Mem → Option (Int32 × bv_Mem)) (hk_21 : ∀ (l1 : Int32) (l2 : Int32) (l3 : Int32) (mi : bv_Mem) (z : Int32 × bv_Mem), k_21 l1 l2 l3 mi = some z → bv_Ev MX8_cover bv_X0 3 74 74 (bv_QI z) 21 [some (.ref 61), some (.int l1), some (.int l2), some (.int l3), none, none] [] 74 (bv_mr mi) mi) (l1 : Int32) (l2 : Int32) (l3 : Int32) (mi : bv_Mem) (z : Int32 × bv_Mem) (h : b_X8_cover_109 k_21 l1 l2 l3 mi = some z) : bv_Ev MX8_cover bv_X0 3 74 74 (bv_QI z) 109 [some (.ref 61), some (.int l1), some (.int l2), some (.int l3), none, none] [] 74 (bv_mr mi) mi := by
  unfold b_X8_cover_109 at h
  refine ev_iconst (0 : Int32) dX8_cover_109 (by decide) ?_
  exact ev_weak (by exact And.intro rfl (And.intro rfl (And.intro rfl (And.intro rfl (trivial))))) (wb_X8_cover_110 k_21 hk_21 _ _ _ _ _ _ h)
set_option maxRecDepth 100000 in
set_option maxHeartbeats 4000000 in
theorem wb_X8_cover_105 (k_21 : Int32 → Int32 → Int32 → bv_Mem → Option (Int32 × bv_Mem)) (hk_21 : ∀ (l1 : Int32) (l2 : Int32) (l3 : Int32) (mi : bv_Mem) (z : Int32 × bv_Mem), k_21 l1 l2 l3 mi = some z → bv_Ev MX8_cover bv_X0 3 74 74 (bv_QI z) 21 [some (.ref 61), some (.int l1), some (.int l2), some (.int l3), none, none] [] 74 (bv_mr mi) mi) (l1 : Int32) (l2 : Int32) (l3 : Int32) (mi : bv_Mem) (z : Int32 × bv_Mem) (h : b_X8_cover_105 k_21 l1 l2 l3 mi = some z) : bv_Ev MX8_cover bv_X0 3 74 74 (bv_QI z) 105 [some (.ref 61), some (.int l1), some (.int l2), some (.int l3), none, none] [] 74 (bv_mr mi) mi := by
  unfold b_X8_cover_105 at h
  refine ev_iconst (1 : Int32) dX8_cover_105 (by decide) ?_
  refine ev_goto 110 dX8_cover_106 (by decide) ?_
  exact ev_weak (by exact And.intro rfl (And.intro rfl (And.intro rfl (And.intro rfl (trivial))))) (wb_X8_cover_110 k_21 hk_21 _ _ _ _ _ _ h)
set_option maxRecDepth 100000 in
set_option maxHeartbeats 4000000 in
theorem wb_X8_cover_39 (k_21 : Int32 → Int32 → Int32 → bv_Mem → Option (Int32 × bv_Mem)) (hk_21 : ∀ (l1 : Int32) (l2 : Int32) (l3 : Int32) (mi : bv_Mem) (z : Int32 × bv_Mem), k_21 l1 l2 l3 mi = some z → bv_Ev MX8_cover bv_X0 3 74 74 (bv_QI z) 21 [some (.ref 61), some (.int l1), some (.int l2), some (.int l3), none, none] [] 74 (bv_mr mi) mi) : ∀ (fu : Nat) (l1 : Int32) (l2 : Int32) (l3 : Int32) (l4 : Int32) (l5 : Int32) (mi : bv_Mem) (z : Int32 × bv_Mem), b_X8_cover_39 k_21 fu l1 l2 l3 l4 l5 mi = some z → bv_Ev MX8_cover bv_X0 3 74 74 (bv_QI z) 39 [some (.ref 61), some (.int l1), some (.int l2), some (.int l3), some (.int l4), some (.int l5)] [] 74 (bv_mr mi) mi := by
  intro fu
  induction fu with
  | zero =>
    intro l1 l2 l3 l4 l5 mi z h
    rw [b_X8_cover_39] at h
    cases h
  | succ fu ih =>
    intro l1 l2 l3 l4 l5 mi z h
    rw [b_X8_cover_39] at h
    refine ev_iload dX8_cover_39 rfl ?_
    refine ev_aload_n dX8_cover_41 rfl ?_
    refine ev_getR 62 lf_X8_9 dX8_cover_42 rfl rfl rfl ?_
    refine ev_iconst (3 : Int32) dX8_cover_45 (by decide) ?_
    refine er_ialdk (N := 371) 3 dX8_cover_46 rfl rfl rfl ?_
    refine ev_icmp_ge 81 dX8_cover_47 (by decide) (fun c1 => ?_) (fun c1 => ?_)
    · replace h := bv_tt c1 h
      refine ev_iload_n dX8_cover_81 rfl ?_
      refine ev_iload dX8_cover_82 rfl ?_
      refine ev_iconst (-1 : Int32) dX8_cover_84 (by decide) ?_
      refine ev_ixor dX8_cover_85 ?_
      refine ev_iand dX8_cover_86 ?_
      refine ev_if_ne 109 dX8_cover_87 (by decide) (fun c2 => ?_) (fun c2 => ?_)
      · replace h := bv_ff c2 h
        exact ev_weak (by exact And.intro rfl (And.intro rfl (And.intro rfl (And.intro rfl (trivial))))) (wb_X8_cover_109 k_21 hk_21 _ _ _ _ _ h)
      · replace h := bv_tt c2 h
        refine ev_iload_n dX8_cover_90 rfl ?_
        refine ev_if_lt 105 dX8_cover_91 (by decide) (fun c3 => ?_) (fun c3 => ?_)
        · replace h := bv_tt c3 h
          exact ev_weak (by exact And.intro rfl (And.intro rfl (And.intro rfl (And.intro rfl (trivial))))) (wb_X8_cover_105 k_21 hk_21 _ _ _ _ _ h)
        · replace h := bv_ff c3 h
          refine ev_iload_n dX8_cover_94 rfl ?_
          obtain ⟨z1, hz1, h⟩ := bv_bd h
          refine er_SP [.int _] (fun _ _ q => q) lk_X8_65 dX8_cover_95 rfl rfl rfl rfl (wm_X8_bits _ _ _ hz1) ?_
          refine ev_iload_n dX8_cover_98 rfl ?_
          obtain ⟨z2, hz2, h⟩ := bv_bd h
          refine er_SP [.int _] (fun _ _ q => q) lk_X8_65 dX8_cover_99 rfl rfl rfl rfl (wm_X8_bits _ _ _ hz2) ?_
          refine ev_icmp_ge 109 dX8_cover_102 (by decide) (fun c4 => ?_) (fun c4 => ?_)
          · replace h := bv_tt c4 h
            exact ev_weak (by exact And.intro rfl (And.intro rfl (And.intro rfl (And.intro rfl (trivial))))) (wb_X8_cover_109 k_21 hk_21 _ _ _ _ _ h)
          · replace h := bv_ff c4 h
            exact ev_weak (by exact And.intro rfl (And.intro rfl (And.intro rfl (And.intro rfl (trivial))))) (wb_X8_cover_105 k_21 hk_21 _ _ _ _ _ h)
    · replace h := bv_ff c1 h
      refine ev_iload dX8_cover_50 rfl ?_
      refine ev_iload_n dX8_cover_52 rfl ?_
      refine ev_iload dX8_cover_53 rfl ?_
      refine ev_ishr dX8_cover_55 ?_
      refine ev_iconst (1 : Int32) dX8_cover_56 (by decide) ?_
      refine ev_iand dX8_cover_57 ?_
      refine ev_iconst (1 : Int32) dX8_cover_58 (by decide) ?_
      refine ev_icmp_ne 71 dX8_cover_59 (by decide) (fun c5 => ?_) (fun c5 => ?_)
      · replace h := bv_ff c5 h
        refine ev_iconst (0 : Int32) dX8_cover_71 (by decide) ?_
        refine ev_ior dX8_cover_72 ?_
        refine ev_istore dX8_cover_73 rfl rfl ?_
        refine ev_iinc (l5 + 1) dX8_cover_75 rfl rfl rfl rfl ?_
        refine ev_goto 39 dX8_cover_78 (by decide) ?_
        exact ev_weak (by exact And.intro rfl (And.intro rfl (And.intro rfl (And.intro rfl (And.intro rfl (And.intro rfl (trivial))))))) (ih _ _ _ _ _ _ _ h)
      · replace h := bv_tt c5 h
        refine ev_aload_n dX8_cover_62 rfl ?_
        refine ev_iload dX8_cover_63 rfl ?_
        obtain ⟨z3, hz3, h⟩ := bv_bd h
        refine er_VP [.int _] (fun _ _ q => q) lk_X8_96 dX8_cover_65 rfl rfl rfl rfl rfl (wm_X8_leftIn _ _ _ hz3) ?_
        refine ev_goto 72 dX8_cover_68 (by decide) ?_
        refine ev_ior dX8_cover_72 ?_
        refine ev_istore dX8_cover_73 rfl rfl ?_
        refine ev_iinc (l5 + 1) dX8_cover_75 rfl rfl rfl rfl ?_
        refine ev_goto 39 dX8_cover_78 (by decide) ?_
        exact ev_weak (by exact And.intro rfl (And.intro rfl (And.intro rfl (And.intro rfl (And.intro rfl (And.intro rfl (trivial))))))) (ih _ _ _ _ _ _ _ h)
set_option maxRecDepth 100000 in
set_option maxHeartbeats 4000000 in
theorem wb_X8_cover_21  : ∀ (fu : Nat) (l1 : Int32) (l2 : Int32) (l3 : Int32) (mi : bv_Mem) (z : Int32 × bv_Mem), b_X8_cover_21 fu l1 l2 l3 mi = some z → bv_Ev MX8_cover bv_X0 3 74 74 (bv_QI z) 21 [some (.ref 61), some (.int l1), some (.int l2), some (.int l3), none, none] [] 74 (bv_mr mi) mi := by
  intro fu
  induction fu with
  | zero =>
    intro l1 l2 l3 mi z h
    rw [b_X8_cover_21] at h
    cases h
  | succ fu ih =>
    intro l1 l2 l3 mi z h
    rw [b_X8_cover_21] at h
    refine ev_iload_n dX8_cover_21 rfl ?_
    refine ev_iconst (1 : Int32) dX8_cover_22 (by decide) ?_
    refine ev_aload_n dX8_cover_23 rfl ?_
    refine ev_getR 62 lf_X8_9 dX8_cover_24 rfl rfl rfl ?_
    refine ev_iconst (3 : Int32) dX8_cover_27 (by decide) ?_
    refine er_ialdk (N := 371) 3 dX8_cover_28 rfl rfl rfl ?_
    refine ev_ishl dX8_cover_29 ?_
    refine ev_icmp_ge 129 dX8_cover_30 (by decide) (fun c1 => ?_) (fun c1 => ?_)
    · replace h := bv_tt c1 h
      refine ev_iload_n dX8_cover_129 rfl ?_
      refine ev_if_ge 142 dX8_cover_130 (by decide) (fun c2 => ?_) (fun c2 => ?_)
      · replace h := bv_tt c2 h
        refine ev_iload_n dX8_cover_142 rfl ?_
        obtain rfl := Option.some.inj h
        exact ev_iret rfl dX8_cover_143 ⟨rfl, rfl, rfl⟩
      · replace h := bv_ff c2 h
        refine ev_aload_n dX8_cover_133 rfl ?_
        refine ev_ldc (-1000000002 : Int32) dX8_cover_134 lc_X8_213 ?_
        obtain ⟨z1, hz1, h⟩ := bv_bd h
        refine er_VI [.int _] (fun _ _ q => q) lk_X8_73 dX8_cover_136 rfl rfl rfl rfl rfl (wm_X8_error _ _ _ hz1) ?_
        refine ev_goto 143 dX8_cover_139 (by decide) ?_
        obtain rfl := Option.some.inj h
        exact ev_iret rfl dX8_cover_143 ⟨rfl, rfl, rfl⟩
    · replace h := bv_ff c1 h
      refine ev_iconst (0 : Int32) dX8_cover_33 (by decide) ?_
      refine ev_istore dX8_cover_34 rfl rfl ?_
      refine ev_iconst (0 : Int32) dX8_cover_36 (by decide) ?_
      refine ev_istore dX8_cover_37 rfl rfl ?_
      exact ev_weak (by exact And.intro rfl (And.intro rfl (And.intro rfl (And.intro rfl (And.intro rfl (And.intro rfl (trivial))))))) (wb_X8_cover_39 (b_X8_cover_21 fu) ih 400 _ _ _ _ _ _ _ h)
set_option maxRecDepth 100000 in
set_option maxHeartbeats 4000000 in
theorem we_X8_cover   (l1 : Int32) (mi : bv_Mem) (z : Int32 × bv_Mem) (h : f_X8_cover  l1 mi = some z) : bv_Ev MX8_cover bv_X0 3 74 74 (bv_QI z) 0 [some (.ref 61), some (.int l1), none, none, none, none] [] 74 (bv_mr mi) mi := by
  unfold f_X8_cover at h
  refine ev_iload_n dX8_cover_0 rfl ?_
  refine ev_iconst (0 : Int32) dX8_cover_1 (by decide) ?_
  refine ev_ldc (1048575 : Int32) dX8_cover_2 lc_X8_109 ?_
  obtain ⟨z1, hz1, h⟩ := bv_bd h
  refine er_SP [.int _, .int _, .int _] (fun _ _ q => q) lk_X8_47 dX8_cover_4 rfl rfl rfl rfl (wm_X8_in _ _ _ _ _ hz1) ?_
  refine ev_if_ne 17 dX8_cover_7 (by decide) (fun c1 => ?_) (fun c1 => ?_)
  · replace h := bv_ff c1 h
    refine ev_iconst (-1 : Int32) dX8_cover_17 (by decide) ?_
    refine ev_istore_n dX8_cover_18 rfl rfl ?_
    refine ev_iconst (0 : Int32) dX8_cover_19 (by decide) ?_
    refine ev_istore_n dX8_cover_20 rfl rfl ?_
    exact ev_weak (by exact And.intro rfl (And.intro rfl (And.intro rfl (And.intro rfl (trivial))))) (wb_X8_cover_21  400 _ _ _ _ _ h)
  · replace h := bv_tt c1 h
    refine ev_aload_n dX8_cover_10 rfl ?_
    refine ev_ldc (-1000000001 : Int32) dX8_cover_11 lc_X8_72 ?_
    obtain ⟨z2, hz2, h⟩ := bv_bd h
    refine er_VI [.int _] (fun _ _ q => q) lk_X8_73 dX8_cover_13 rfl rfl rfl rfl rfl (wm_X8_error _ _ _ hz2) ?_
    obtain rfl := Option.some.inj h
    exact ev_iret rfl dX8_cover_16 ⟨rfl, rfl, rfl⟩
theorem wm_X8_cover   (l1 : Int32) (mi : bv_Mem) (z : Int32 × bv_Mem) (h : f_X8_cover  l1 mi = some z) : bv_Met yX8_cover MX8_cover bv_X0 3 74 74 [.ref 61, .int l1] (bv_mr mi) mi (bv_QI z) :=
  bv_Met.of (pn_X 8 (by decide)) rfl (fun q => absurd q Bool.false_ne_true) (Nat.le_of_ble_eq_true rfl) (we_X8_cover   l1 mi z h)
set_option maxRecDepth 100000 in
set_option maxHeartbeats 4000000 in
theorem wb_X8_worth_7  : ∀ (fu : Nat) (l1 : Int32) (l2 : Int32) (l3 : Int32) (l4 : Int32) (mi : bv_Mem) (z : Int32 × bv_Mem), b_X8_worth_7 fu l1 l2 l3 l4 mi = some z → bv_Ev MX8_worth bv_X0 5 74 74 (bv_QI z) 7 [some (.ref 61), some (.int l1), some (.int l2), some (.int l3), some (.int l4), none] [] 74 (bv_mr mi) mi := by
  intro fu
  induction fu with
  | zero =>
    intro l1 l2 l3 l4 mi z h
    rw [b_X8_worth_7] at h
    cases h
  | succ fu ih =>
    intro l1 l2 l3 l4 mi z h
    rw [b_X8_worth_7] at h
    refine ev_iload dX8_worth_7 rfl ?_
    refine ev_aload_n dX8_worth_9 rfl ?_
    refine ev_getR 62 lf_X8_9 dX8_worth_10 rfl rfl rfl ?_
    refine ev_iconst (3 : Int32) dX8_worth_13 (by decide) ?_
    refine er_ialdk (N := 371) 3 dX8_worth_14 rfl rfl rfl ?_
    refine ev_icmp_ge 65 dX8_worth_15 (by decide) (fun c1 => ?_) (fun c1 => ?_)
    · replace h := bv_tt c1 h
      refine ev_iload_n dX8_worth_65 rfl ?_
      obtain rfl := Option.some.inj h
      exact ev_iret rfl dX8_worth_66 ⟨rfl, rfl, rfl⟩
    · replace h := bv_ff c1 h
      refine ev_iload_n dX8_worth_18 rfl ?_
      refine ev_iload dX8_worth_19 rfl ?_
      refine ev_ishr dX8_worth_21 ?_
      refine ev_iconst (1 : Int32) dX8_worth_22 (by decide) ?_
      refine ev_iand dX8_worth_23 ?_
      refine ev_iconst (1 : Int32) dX8_worth_24 (by decide) ?_
      refine ev_icmp_ne 59 dX8_worth_25 (by decide) (fun c2 => ?_) (fun c2 => ?_)
      · replace h := bv_ff c2 h
        refine ev_iinc (l4 + 1) dX8_worth_59 rfl rfl rfl rfl ?_
        refine ev_goto 7 dX8_worth_62 (by decide) ?_
        exact ev_weak (by exact And.intro rfl (And.intro rfl (And.intro rfl (And.intro rfl (And.intro rfl (trivial)))))) (ih _ _ _ _ _ _ h)
      · replace h := bv_tt c2 h
        refine ev_aload_n dX8_worth_28 rfl ?_
        refine ev_iload dX8_worth_29 rfl ?_
        obtain ⟨z1, hz1, h⟩ := bv_bd h
        refine er_VP [.int _] (fun _ _ q => q) lk_X8_96 dX8_worth_31 rfl rfl rfl rfl rfl (wm_X8_leftIn _ _ _ hz1) ?_
        refine ev_istore dX8_worth_34 rfl rfl ?_
        refine ev_iload_n dX8_worth_36 rfl ?_
        refine ev_iload dX8_worth_37 rfl ?_
        refine ev_iand dX8_worth_39 ?_
        refine ev_if_eq 45 dX8_worth_40 (by decide) (fun c3 => ?_) (fun c3 => ?_)
        · replace h := bv_tt c3 h
          refine ev_iload_n dX8_worth_45 rfl ?_
          refine ev_iload dX8_worth_46 rfl ?_
          refine ev_ior dX8_worth_48 ?_
          refine ev_istore_n dX8_worth_49 rfl rfl ?_
          refine ev_iload_n dX8_worth_50 rfl ?_
          refine ev_aload_n dX8_worth_51 rfl ?_
          refine ev_iload dX8_worth_52 rfl ?_
          obtain ⟨z2, hz2, h⟩ := bv_bd h
          refine er_VI [.int _] (fun _ _ q => q) lk_X8_118 dX8_worth_54 rfl rfl rfl rfl rfl (wm_X8_costsOf _ _ _ hz2) ?_
          refine ev_iadd dX8_worth_57 ?_
          refine ev_istore_n dX8_worth_58 rfl rfl ?_
          refine ev_iinc (l4 + 1) dX8_worth_59 rfl rfl rfl rfl ?_
          refine ev_goto 7 dX8_worth_62 (by decide) ?_
          exact ev_weak (by exact And.intro rfl (And.intro rfl (And.intro rfl (And.intro rfl (And.intro rfl (trivial)))))) (ih _ _ _ _ _ _ h)
        · replace h := bv_ff c3 h
          refine ev_iconst (-1 : Int32) dX8_worth_43 (by decide) ?_
          obtain rfl := Option.some.inj h
          exact ev_iret rfl dX8_worth_44 ⟨rfl, rfl, rfl⟩
set_option maxRecDepth 100000 in
set_option maxHeartbeats 4000000 in
theorem we_X8_worth   (l1 : Int32) (mi : bv_Mem) (z : Int32 × bv_Mem) (h : f_X8_worth  l1 mi = some z) : bv_Ev MX8_worth bv_X0 5 74 74 (bv_QI z) 0 [some (.ref 61), some (.int l1), none, none, none, none] [] 74 (bv_mr mi) mi := by
  unfold f_X8_worth at h
  refine ev_iconst (0 : Int32) dX8_worth_0 (by decide) ?_
  refine ev_istore_n dX8_worth_1 rfl rfl ?_
  refine ev_iconst (0 : Int32) dX8_worth_2 (by decide) ?_
  refine ev_istore_n dX8_worth_3 rfl rfl ?_
  refine ev_iconst (0 : Int32) dX8_worth_4 (by decide) ?_
  refine ev_istore dX8_worth_5 rfl rfl ?_
  exact ev_weak (by exact And.intro rfl (And.intro rfl (And.intro rfl (And.intro rfl (And.intro rfl (trivial)))))) (wb_X8_worth_7  400 _ _ _ _ _ _ h)
theorem wm_X8_worth   (l1 : Int32) (mi : bv_Mem) (z : Int32 × bv_Mem) (h : f_X8_worth  l1 mi = some z) : bv_Met yX8_worth MX8_worth bv_X0 5 74 74 [.ref 61, .int l1] (bv_mr mi) mi (bv_QI z) :=
  bv_Met.of (pn_X 8 (by decide)) rfl (fun q => absurd q Bool.false_ne_true) (Nat.le_of_ble_eq_true rfl) (we_X8_worth   l1 mi z h)
set_option maxRecDepth 100000 in
set_option maxHeartbeats 4000000 in
theorem wb_X8_keeps_56 (k_23 : Int32 → Int32 → Int32 → Int32 → bv_Mem → Option (Int32 × bv_Mem)) (hk_23 : ∀ (l1 : Int32) (l2 : Int32) (l3 : Int32) (l4 : Int32) (mi : bv_Mem) (z : Int32 × bv_Mem), k_23 l1 l2 l3 l4 mi = some z → bv_Ev MX8_keeps bv_X0 6 74 74 (bv_QI z) 23 [some (.ref 61), some (.int l1), some (.int l2), some (.int l3), some (.int l4), none] [] 74 (bv_mr mi) mi) (l1 : Int32) (l3 : Int32) (l4 : Int32) (l5 : Int32) (s0 : Int32) (mi : bv_Mem) (z : Int32 × bv_Mem) (h : b_X8_keeps_56 k_23 l1 l3 l4 l5 s0 mi = some z) : bv_Ev MX8_keeps bv_X0 6 74 74 (bv_QI z) 56 [some (.ref 61), some (.int l1), none, some (.int l3), some (.int l4), some (.int l5)] [.int s0] 74 (bv_mr mi) mi := by
  unfold b_X8_keeps_56 at h
  refine ev_istore_n dX8_keeps_56 rfl rfl ?_
  refine ev_iload dX8_keeps_57 rfl ?_
  refine ev_iload_n dX8_keeps_59 rfl ?_
  refine ev_icmp_le 68 dX8_keeps_60 (by decide) (fun c1 => ?_) (fun c1 => ?_)
  · replace h := bv_tt c1 h
    refine ev_iload_n dX8_keeps_68 rfl ?_
    refine ev_istore_n dX8_keeps_69 rfl rfl ?_
    refine ev_iinc (l4 + 1) dX8_keeps_70 rfl rfl rfl rfl ?_
    refine ev_goto 23 dX8_keeps_73 (by decide) ?_
    exact ev_weak (by exact And.intro rfl (And.intro rfl (And.intro rfl (And.intro rfl (And.intro rfl (trivial)))))) (hk_23 _ _ _ _ _ _ h)
  · replace h := bv_ff c1 h
    refine ev_iload dX8_keeps_63 rfl ?_
    refine ev_goto 69 dX8_keeps_65 (by decide) ?_
    refine ev_istore_n dX8_keeps_69 rfl rfl ?_
    refine ev_iinc (l4 + 1) dX8_keeps_70 rfl rfl rfl rfl ?_
    refine ev_goto 23 dX8_keeps_73 (by decide) ?_
    exact ev_weak (by exact And.intro rfl (And.intro rfl (And.intro rfl (And.intro rfl (And.intro rfl (trivial)))))) (hk_23 _ _ _ _ _ _ h)
set_option maxRecDepth 100000 in
set_option maxHeartbeats 4000000 in
theorem wb_X8_keeps_23  : ∀ (fu : Nat) (l1 : Int32) (l2 : Int32) (l3 : Int32) (l4 : Int32) (mi : bv_Mem) (z : Int32 × bv_Mem), b_X8_keeps_23 fu l1 l2 l3 l4 mi = some z → bv_Ev MX8_keeps bv_X0 6 74 74 (bv_QI z) 23 [some (.ref 61), some (.int l1), some (.int l2), some (.int l3), some (.int l4), none] [] 74 (bv_mr mi) mi := by
  intro fu
  induction fu with
  | zero =>
    intro l1 l2 l3 l4 mi z h
    rw [b_X8_keeps_23] at h
    cases h
  | succ fu ih =>
    intro l1 l2 l3 l4 mi z h
    rw [b_X8_keeps_23] at h
    refine ev_iload dX8_keeps_23 rfl ?_
    refine ev_iconst (1 : Int32) dX8_keeps_25 (by decide) ?_
    refine ev_aload_n dX8_keeps_26 rfl ?_
    refine ev_getR 62 lf_X8_9 dX8_keeps_27 rfl rfl rfl ?_
    refine ev_iconst (3 : Int32) dX8_keeps_30 (by decide) ?_
    refine er_ialdk (N := 371) 3 dX8_keeps_31 rfl rfl rfl ?_
    refine ev_ishl dX8_keeps_32 ?_
    refine ev_icmp_ge 76 dX8_keeps_33 (by decide) (fun c1 => ?_) (fun c1 => ?_)
    · replace h := bv_tt c1 h
      refine ev_iload_n dX8_keeps_76 rfl ?_
      refine ev_if_ne 84 dX8_keeps_77 (by decide) (fun c2 => ?_) (fun c2 => ?_)
      · replace h := bv_ff c2 h
        refine ev_iload_n dX8_keeps_84 rfl ?_
        obtain rfl := Option.some.inj h
        exact ev_iret rfl dX8_keeps_85 ⟨rfl, rfl, rfl⟩
      · replace h := bv_tt c2 h
        refine ev_iload_n dX8_keeps_80 rfl ?_
        refine ev_goto 85 dX8_keeps_81 (by decide) ?_
        obtain rfl := Option.some.inj h
        exact ev_iret rfl dX8_keeps_85 ⟨rfl, rfl, rfl⟩
    · replace h := bv_ff c1 h
      refine ev_aload_n dX8_keeps_36 rfl ?_
      refine ev_iload dX8_keeps_37 rfl ?_
      obtain ⟨z1, hz1, h⟩ := bv_bd h
      refine er_VI [.int _] (fun _ _ q => q) lk_X8_217 dX8_keeps_39 rfl rfl rfl rfl rfl (wm_X8_worth _ _ _ hz1) ?_
      refine ev_istore dX8_keeps_42 rfl rfl ?_
      refine ev_iload dX8_keeps_44 rfl ?_
      refine ev_iload_n dX8_keeps_46 rfl ?_
      refine ev_icmp_le 55 dX8_keeps_47 (by decide) (fun c3 => ?_) (fun c3 => ?_)
      · replace h := bv_tt c3 h
        refine ev_iload_n dX8_keeps_55 rfl ?_
        exact ev_weak (by exact And.intro rfl (And.intro rfl (And.intro rfl (And.intro rfl (And.intro rfl (trivial)))))) (wb_X8_keeps_56 (b_X8_keeps_23 fu) ih _ _ _ _ _ _ _ h)
      · replace h := bv_ff c3 h
        refine ev_iload dX8_keeps_50 rfl ?_
        refine ev_goto 56 dX8_keeps_52 (by decide) ?_
        exact ev_weak (by exact And.intro rfl (And.intro rfl (And.intro rfl (And.intro rfl (And.intro rfl (trivial)))))) (wb_X8_keeps_56 (b_X8_keeps_23 fu) ih _ _ _ _ _ _ _ h)
set_option maxRecDepth 100000 in
set_option maxHeartbeats 4000000 in
theorem we_X8_keeps   (l1 : Int32) (mi : bv_Mem) (z : Int32 × bv_Mem) (h : f_X8_keeps  l1 mi = some z) : bv_Ev MX8_keeps bv_X0 6 74 74 (bv_QI z) 0 [some (.ref 61), some (.int l1), none, none, none, none] [] 74 (bv_mr mi) mi := by
  unfold f_X8_keeps at h
  refine ev_iload_n dX8_keeps_0 rfl ?_
  refine ev_iconst (0 : Int32) dX8_keeps_1 (by decide) ?_
  refine ev_iconst (1 : Int32) dX8_keeps_2 (by decide) ?_
  obtain ⟨z1, hz1, h⟩ := bv_bd h
  refine er_SP [.int _, .int _, .int _] (fun _ _ q => q) lk_X8_47 dX8_keeps_3 rfl rfl rfl rfl (wm_X8_in _ _ _ _ _ hz1) ?_
  refine ev_if_ne 16 dX8_keeps_6 (by decide) (fun c1 => ?_) (fun c1 => ?_)
  · replace h := bv_ff c1 h
    refine ev_iconst (0 : Int32) dX8_keeps_16 (by decide) ?_
    refine ev_istore_n dX8_keeps_17 rfl rfl ?_
    refine ev_iconst (0 : Int32) dX8_keeps_18 (by decide) ?_
    refine ev_istore_n dX8_keeps_19 rfl rfl ?_
    refine ev_iconst (1 : Int32) dX8_keeps_20 (by decide) ?_
    refine ev_istore dX8_keeps_21 rfl rfl ?_
    exact ev_weak (by exact And.intro rfl (And.intro rfl (And.intro rfl (And.intro rfl (And.intro rfl (trivial)))))) (wb_X8_keeps_23  400 _ _ _ _ _ _ h)
  · replace h := bv_tt c1 h
    refine ev_aload_n dX8_keeps_9 rfl ?_
    refine ev_ldc (-1000000001 : Int32) dX8_keeps_10 lc_X8_72 ?_
    obtain ⟨z2, hz2, h⟩ := bv_bd h
    refine er_VI [.int _] (fun _ _ q => q) lk_X8_73 dX8_keeps_12 rfl rfl rfl rfl rfl (wm_X8_error _ _ _ hz2) ?_
    obtain rfl := Option.some.inj h
    exact ev_iret rfl dX8_keeps_15 ⟨rfl, rfl, rfl⟩
theorem wm_X8_keeps   (l1 : Int32) (mi : bv_Mem) (z : Int32 × bv_Mem) (h : f_X8_keeps  l1 mi = some z) : bv_Met yX8_keeps MX8_keeps bv_X0 6 74 74 [.ref 61, .int l1] (bv_mr mi) mi (bv_QI z) :=
  bv_Met.of (pn_X 8 (by decide)) rfl (fun q => absurd q Bool.false_ne_true) (Nat.le_of_ble_eq_true rfl) (we_X8_keeps   l1 mi z h)
set_option maxRecDepth 100000 in
set_option maxHeartbeats 4000000 in
theorem wb_X8_blend_66  (l3 : Int32) (l4 : Int32) (s0 : Int32) (mi : bv_Mem) (z : Int32 × bv_Mem) (h : b_X8_blend_66 l3 l4 s0 mi = some z) : bv_Ev MX8_blend bv_X0 3 74 74 (bv_QI z) 66 [some (.ref 61), none, none, some (.int l3), some (.int l4), none] [.int s0] 74 (bv_mr mi) mi := by
  unfold b_X8_blend_66 at h
  refine ev_istore dX8_blend_66 rfl rfl ?_
  refine ev_iload dX8_blend_68 rfl ?_
  refine ev_if_eq 80 dX8_blend_70 (by decide) (fun c1 => ?_) (fun c1 => ?_)
  · replace h := bv_tt c1 h
    refine ev_aload_n dX8_blend_80 rfl ?_
    refine ev_ldc (-1000000003 : Int32) dX8_blend_81 lc_X8_110 ?_
    obtain ⟨z1, hz1, h⟩ := bv_bd h
    refine er_VI [.int _] (fun _ _ q => q) lk_X8_73 dX8_blend_83 rfl rfl rfl rfl rfl (wm_X8_error _ _ _ hz1) ?_
    obtain rfl := Option.some.inj h
    exact ev_iret rfl dX8_blend_86 ⟨rfl, rfl, rfl⟩
  · replace h := bv_ff c1 h
    refine ev_iload_n dX8_blend_73 rfl ?_
    refine ev_iload dX8_blend_74 rfl ?_
    refine ev_ior dX8_blend_76 ?_
    refine ev_goto 86 dX8_blend_77 (by decide) ?_
    obtain rfl := Option.some.inj h
    exact ev_iret rfl dX8_blend_86 ⟨rfl, rfl, rfl⟩
set_option maxRecDepth 100000 in
set_option maxHeartbeats 4000000 in
theorem wb_X8_blend_65  (l3 : Int32) (l4 : Int32) (mi : bv_Mem) (z : Int32 × bv_Mem) (h : b_X8_blend_65 l3 l4 mi = some z) : bv_Ev MX8_blend bv_X0 3 74 74 (bv_QI z) 65 [some (.ref 61), none, none, some (.int l3), some (.int l4), none] [] 74 (bv_mr mi) mi := by
  unfold b_X8_blend_65 at h
  refine ev_iconst (0 : Int32) dX8_blend_65 (by decide) ?_
  exact ev_weak (by exact And.intro rfl (And.intro rfl (And.intro rfl (trivial)))) (wb_X8_blend_66  _ _ _ _ _ h)
set_option maxRecDepth 100000 in
set_option maxHeartbeats 4000000 in
theorem we_X8_blend   (l1 : Int32) (l2 : Int32) (mi : bv_Mem) (z : Int32 × bv_Mem) (h : f_X8_blend  l1 l2 mi = some z) : bv_Ev MX8_blend bv_X0 3 74 74 (bv_QI z) 0 [some (.ref 61), some (.int l1), some (.int l2), none, none, none] [] 74 (bv_mr mi) mi := by
  unfold f_X8_blend at h
  refine ev_aload_n dX8_blend_0 rfl ?_
  refine ev_iload_n dX8_blend_1 rfl ?_
  obtain ⟨z1, hz1, h⟩ := bv_bd h
  refine er_VP [.int _] (fun _ _ q => q) lk_X8_115 dX8_blend_2 rfl rfl rfl rfl rfl (wm_X8_isBottle _ _ _ hz1) ?_
  refine ev_if_eq 21 dX8_blend_5 (by decide) (fun c1 => ?_) (fun c1 => ?_)
  · replace h := bv_tt c1 h
    refine ev_aload_n dX8_blend_21 rfl ?_
    refine ev_ldc (-1000000001 : Int32) dX8_blend_22 lc_X8_72 ?_
    obtain ⟨z2, hz2, h⟩ := bv_bd h
    refine er_VI [.int _] (fun _ _ q => q) lk_X8_73 dX8_blend_24 rfl rfl rfl rfl rfl (wm_X8_error _ _ _ hz2) ?_
    obtain rfl := Option.some.inj h
    exact ev_iret rfl dX8_blend_27 ⟨rfl, rfl, rfl⟩
  · replace h := bv_ff c1 h
    refine ev_aload_n dX8_blend_8 rfl ?_
    refine ev_iload_n dX8_blend_9 rfl ?_
    obtain ⟨z3, hz3, h⟩ := bv_bd h
    refine er_VP [.int _] (fun _ _ q => q) lk_X8_115 dX8_blend_10 rfl rfl rfl rfl rfl (wm_X8_isBottle _ _ _ hz3) ?_
    refine ev_if_eq 21 dX8_blend_13 (by decide) (fun c2 => ?_) (fun c2 => ?_)
    · replace h := bv_tt c2 h
      refine ev_aload_n dX8_blend_21 rfl ?_
      refine ev_ldc (-1000000001 : Int32) dX8_blend_22 lc_X8_72 ?_
      obtain ⟨z4, hz4, h⟩ := bv_bd h
      refine er_VI [.int _] (fun _ _ q => q) lk_X8_73 dX8_blend_24 rfl rfl rfl rfl rfl (wm_X8_error _ _ _ hz4) ?_
      obtain rfl := Option.some.inj h
      exact ev_iret rfl dX8_blend_27 ⟨rfl, rfl, rfl⟩
    · replace h := bv_ff c2 h
      refine ev_iload_n dX8_blend_16 rfl ?_
      refine ev_iload_n dX8_blend_17 rfl ?_
      refine ev_icmp_ne 28 dX8_blend_18 (by decide) (fun c3 => ?_) (fun c3 => ?_)
      · replace h := bv_ff c3 h
        refine ev_aload_n dX8_blend_28 rfl ?_
        refine ev_iload_n dX8_blend_29 rfl ?_
        obtain ⟨z5, hz5, h⟩ := bv_bd h
        refine er_VP [.int _] (fun _ _ q => q) lk_X8_96 dX8_blend_30 rfl rfl rfl rfl rfl (wm_X8_leftIn _ _ _ hz5) ?_
        refine ev_istore_n dX8_blend_33 rfl rfl ?_
        refine ev_aload_n dX8_blend_34 rfl ?_
        refine ev_iload_n dX8_blend_35 rfl ?_
        obtain ⟨z6, hz6, h⟩ := bv_bd h
        refine er_VP [.int _] (fun _ _ q => q) lk_X8_96 dX8_blend_36 rfl rfl rfl rfl rfl (wm_X8_leftIn _ _ _ hz6) ?_
        refine ev_istore dX8_blend_39 rfl rfl ?_
        refine ev_iload_n dX8_blend_41 rfl ?_
        refine ev_iload dX8_blend_42 rfl ?_
        refine ev_iand dX8_blend_44 ?_
        refine ev_if_ne 65 dX8_blend_45 (by decide) (fun c4 => ?_) (fun c4 => ?_)
        · replace h := bv_ff c4 h
          exact ev_weak (by exact And.intro rfl (And.intro rfl (And.intro rfl (trivial)))) (wb_X8_blend_65  _ _ _ _ h)
        · replace h := bv_tt c4 h
          refine ev_iload_n dX8_blend_48 rfl ?_
          refine ev_iconst (1 : Int32) dX8_blend_49 (by decide) ?_
          refine ev_ishl dX8_blend_50 ?_
          refine ev_iload_n dX8_blend_51 rfl ?_
          refine ev_iconst (1 : Int32) dX8_blend_52 (by decide) ?_
          refine ev_ishr dX8_blend_53 ?_
          refine ev_ior dX8_blend_54 ?_
          refine ev_iload dX8_blend_55 rfl ?_
          refine ev_iand dX8_blend_57 ?_
          refine ev_if_eq 65 dX8_blend_58 (by decide) (fun c5 => ?_) (fun c5 => ?_)
          · replace h := bv_tt c5 h
            exact ev_weak (by exact And.intro rfl (And.intro rfl (And.intro rfl (trivial)))) (wb_X8_blend_65  _ _ _ _ h)
          · replace h := bv_ff c5 h
            refine ev_iconst (1 : Int32) dX8_blend_61 (by decide) ?_
            refine ev_goto 66 dX8_blend_62 (by decide) ?_
            exact ev_weak (by exact And.intro rfl (And.intro rfl (And.intro rfl (trivial)))) (wb_X8_blend_66  _ _ _ _ _ h)
      · replace h := bv_tt c3 h
        refine ev_aload_n dX8_blend_21 rfl ?_
        refine ev_ldc (-1000000001 : Int32) dX8_blend_22 lc_X8_72 ?_
        obtain ⟨z7, hz7, h⟩ := bv_bd h
        refine er_VI [.int _] (fun _ _ q => q) lk_X8_73 dX8_blend_24 rfl rfl rfl rfl rfl (wm_X8_error _ _ _ hz7) ?_
        obtain rfl := Option.some.inj h
        exact ev_iret rfl dX8_blend_27 ⟨rfl, rfl, rfl⟩
theorem wm_X8_blend   (l1 : Int32) (l2 : Int32) (mi : bv_Mem) (z : Int32 × bv_Mem) (h : f_X8_blend  l1 l2 mi = some z) : bv_Met yX8_blend MX8_blend bv_X0 3 74 74 [.ref 61, .int l1, .int l2] (bv_mr mi) mi (bv_QI z) :=
  bv_Met.of (pn_X 8 (by decide)) rfl (fun q => absurd q Bool.false_ne_true) (Nat.le_of_ble_eq_true rfl) (we_X8_blend   l1 l2 mi z h)
set_option maxRecDepth 100000 in
set_option maxHeartbeats 4000000 in
theorem wb_X8_thief_103 (k_70 : Int32 → Int32 → Int32 → bv_Mem → Option (Int32 × bv_Mem)) (hk_70 : ∀ (l1 : Int32) (l2 : Int32) (l3 : Int32) (mi : bv_Mem) (z : Int32 × bv_Mem), k_70 l1 l2 l3 mi = some z → bv_Ev MX8_thief bv_X0 3 74 74 (bv_QI z) 70 [some (.ref 61), some (.int l1), some (.int l2), some (.int l3)] [] 74 (bv_mr mi) mi) (l1 : Int32) (l3 : Int32) (s0 : Int32) (mi : bv_Mem) (z : Int32 × bv_Mem) (h : b_X8_thief_103 k_70 l1 l3 s0 mi = some z) : bv_Ev MX8_thief bv_X0 3 74 74 (bv_QI z) 103 [some (.ref 61), some (.int l1), none, some (.int l3)] [.int s0] 74 (bv_mr mi) mi := by
  unfold b_X8_thief_103 at h
  refine ev_iconst (1 : Int32) dX8_thief_103 (by decide) ?_
  refine ev_iload_n dX8_thief_104 rfl ?_
  refine ev_ishl dX8_thief_105 ?_
  refine ev_goto 110 dX8_thief_106 (by decide) ?_
  refine ev_ior dX8_thief_110 ?_
  refine ev_istore_n dX8_thief_111 rfl rfl ?_
  refine ev_iinc (l3 + 1) dX8_thief_112 rfl rfl rfl rfl ?_
  refine ev_goto 70 dX8_thief_115 (by decide) ?_
  exact ev_weak (by exact And.intro rfl (And.intro rfl (And.intro rfl (And.intro rfl (trivial))))) (hk_70 _ _ _ _ _ h)
set_option maxRecDepth 100000 in
set_option maxHeartbeats 4000000 in
theorem wb_X8_thief_70  : ∀ (fu : Nat) (l1 : Int32) (l2 : Int32) (l3 : Int32) (mi : bv_Mem) (z : Int32 × bv_Mem), b_X8_thief_70 fu l1 l2 l3 mi = some z → bv_Ev MX8_thief bv_X0 3 74 74 (bv_QI z) 70 [some (.ref 61), some (.int l1), some (.int l2), some (.int l3)] [] 74 (bv_mr mi) mi := by
  intro fu
  induction fu with
  | zero =>
    intro l1 l2 l3 mi z h
    rw [b_X8_thief_70] at h
    cases h
  | succ fu ih =>
    intro l1 l2 l3 mi z h
    rw [b_X8_thief_70] at h
    refine ev_iload_n dX8_thief_70 rfl ?_
    refine ev_bipush (20 : Int32) dX8_thief_71 (by decide) ?_
    refine ev_icmp_ge 118 dX8_thief_73 (by decide) (fun c1 => ?_) (fun c1 => ?_)
    · replace h := bv_tt c1 h
      refine ev_aload_n dX8_thief_118 rfl ?_
      obtain ⟨z1, hz1, h⟩ := bv_bd h
      refine er_VV [] (fun _ _ q => q) lk_X8_210 dX8_thief_119 rfl rfl rfl rfl rfl (wm_X8_putsBack  _ _ hz1) ?_
      refine ev_iload_n dX8_thief_122 rfl ?_
      obtain rfl := Option.some.inj h
      exact ev_iret rfl dX8_thief_123 ⟨rfl, rfl, rfl⟩
    · replace h := bv_ff c1 h
      refine ev_iload_n dX8_thief_76 rfl ?_
      refine ev_iload_n dX8_thief_77 rfl ?_
      refine ev_aload_n dX8_thief_78 rfl ?_
      refine ev_iload_n dX8_thief_79 rfl ?_
      refine ev_iconst (0 : Int32) dX8_thief_80 (by decide) ?_
      obtain ⟨z2, hz2, h⟩ := bv_bd h
      refine er_VP [.int _, .int _] (fun _ _ q => q) lk_X8_62 dX8_thief_81 rfl rfl rfl rfl rfl (wm_X8_viewOf _ _ _ _ hz2) ?_
      refine ev_iconst (-1 : Int32) dX8_thief_84 (by decide) ?_
      refine ev_ixor dX8_thief_85 ?_
      refine ev_iand dX8_thief_86 ?_
      refine ev_if_eq 103 dX8_thief_87 (by decide) (fun c2 => ?_) (fun c2 => ?_)
      · replace h := bv_tt c2 h
        exact ev_weak (by exact And.intro rfl (And.intro rfl (And.intro rfl (trivial)))) (wb_X8_thief_103 (b_X8_thief_70 fu) ih _ _ _ _ _ h)
      · replace h := bv_ff c2 h
        refine ev_iload_n dX8_thief_90 rfl ?_
        refine ev_aload_n dX8_thief_91 rfl ?_
        refine ev_iload_n dX8_thief_92 rfl ?_
        refine ev_iconst (1 : Int32) dX8_thief_93 (by decide) ?_
        obtain ⟨z3, hz3, h⟩ := bv_bd h
        refine er_VP [.int _, .int _] (fun _ _ q => q) lk_X8_62 dX8_thief_94 rfl rfl rfl rfl rfl (wm_X8_viewOf _ _ _ _ hz3) ?_
        refine ev_iconst (-1 : Int32) dX8_thief_97 (by decide) ?_
        refine ev_ixor dX8_thief_98 ?_
        refine ev_iand dX8_thief_99 ?_
        refine ev_if_ne 109 dX8_thief_100 (by decide) (fun c3 => ?_) (fun c3 => ?_)
        · replace h := bv_ff c3 h
          refine ev_iconst (0 : Int32) dX8_thief_109 (by decide) ?_
          refine ev_ior dX8_thief_110 ?_
          refine ev_istore_n dX8_thief_111 rfl rfl ?_
          refine ev_iinc (l3 + 1) dX8_thief_112 rfl rfl rfl rfl ?_
          refine ev_goto 70 dX8_thief_115 (by decide) ?_
          exact ev_weak (by exact And.intro rfl (And.intro rfl (And.intro rfl (And.intro rfl (trivial))))) (ih _ _ _ _ _ h)
        · replace h := bv_tt c3 h
          exact ev_weak (by exact And.intro rfl (And.intro rfl (And.intro rfl (trivial)))) (wb_X8_thief_103 (b_X8_thief_70 fu) ih _ _ _ _ _ h)
set_option maxRecDepth 100000 in
set_option maxHeartbeats 4000000 in
theorem wb_X8_thief_23  : ∀ (fu : Nat) (l1 : Int32) (l2 : Int32) (mi : bv_Mem) (z : Int32 × bv_Mem), b_X8_thief_23 fu l1 l2 mi = some z → bv_Ev MX8_thief bv_X0 3 74 74 (bv_QI z) 23 [some (.ref 61), some (.int l1), some (.int l2), none] [] 74 (bv_mr mi) mi := by
  intro fu
  induction fu with
  | zero =>
    intro l1 l2 mi z h
    rw [b_X8_thief_23] at h
    cases h
  | succ fu ih =>
    intro l1 l2 mi z h
    rw [b_X8_thief_23] at h
    refine ev_iload_n dX8_thief_23 rfl ?_
    refine ev_bipush (20 : Int32) dX8_thief_24 (by decide) ?_
    refine ev_icmp_ge 66 dX8_thief_26 (by decide) (fun c1 => ?_) (fun c1 => ?_)
    · replace h := bv_tt c1 h
      refine ev_iconst (0 : Int32) dX8_thief_66 (by decide) ?_
      refine ev_istore_n dX8_thief_67 rfl rfl ?_
      refine ev_iconst (0 : Int32) dX8_thief_68 (by decide) ?_
      refine ev_istore_n dX8_thief_69 rfl rfl ?_
      exact ev_weak (by exact And.intro rfl (And.intro rfl (And.intro rfl (And.intro rfl (trivial))))) (wb_X8_thief_70  400 _ _ _ _ _ h)
    · replace h := bv_ff c1 h
      refine ev_aload_n dX8_thief_29 rfl ?_
      refine ev_getR 62 lf_X8_9 dX8_thief_30 rfl rfl rfl ?_
      refine ev_bipush (31 : Int32) dX8_thief_33 (by decide) ?_
      refine ev_iload_n dX8_thief_35 rfl ?_
      refine ev_iadd dX8_thief_36 ?_
      refine ev_iload_n dX8_thief_37 rfl ?_
      refine ev_iload_n dX8_thief_38 rfl ?_
      refine ev_ishr dX8_thief_39 ?_
      refine ev_iconst (1 : Int32) dX8_thief_40 (by decide) ?_
      refine ev_iand dX8_thief_41 ?_
      refine ev_iconst (1 : Int32) dX8_thief_42 (by decide) ?_
      refine ev_icmp_ne 50 dX8_thief_43 (by decide) (fun c2 => ?_) (fun c2 => ?_)
      · replace h := bv_ff c2 h
        refine ev_aload_n dX8_thief_50 rfl ?_
        refine ev_getR 62 lf_X8_9 dX8_thief_51 rfl rfl rfl ?_
        refine ev_bipush (31 : Int32) dX8_thief_54 (by decide) ?_
        refine ev_iload_n dX8_thief_56 rfl ?_
        refine ev_iadd dX8_thief_57 ?_
        obtain ⟨g1, h⟩ := bv_gd h
        refine ev_iald (N := 371) dX8_thief_58 rfl g1 ?_
        refine er_iast (N := 371) dX8_thief_59 rfl g1 ?_
        refine ev_iinc (l2 + 1) dX8_thief_60 rfl rfl rfl rfl ?_
        refine ev_goto 23 dX8_thief_63 (by decide) ?_
        exact ev_weak (by exact And.intro rfl (And.intro rfl (And.intro rfl (trivial)))) (ih _ _ _ _ h)
      · replace h := bv_tt c2 h
        refine ev_iconst (0 : Int32) dX8_thief_46 (by decide) ?_
        refine ev_goto 59 dX8_thief_47 (by decide) ?_
        obtain ⟨g2, h⟩ := bv_gd h
        refine er_iast (N := 371) dX8_thief_59 rfl g2 ?_
        refine ev_iinc (l2 + 1) dX8_thief_60 rfl rfl rfl rfl ?_
        refine ev_goto 23 dX8_thief_63 (by decide) ?_
        exact ev_weak (by exact And.intro rfl (And.intro rfl (And.intro rfl (trivial)))) (ih _ _ _ _ h)
set_option maxRecDepth 100000 in
set_option maxHeartbeats 4000000 in
theorem we_X8_thief   (l1 : Int32) (mi : bv_Mem) (z : Int32 × bv_Mem) (h : f_X8_thief  l1 mi = some z) : bv_Ev MX8_thief bv_X0 3 74 74 (bv_QI z) 0 [some (.ref 61), some (.int l1), none, none] [] 74 (bv_mr mi) mi := by
  unfold f_X8_thief at h
  refine ev_iload_n dX8_thief_0 rfl ?_
  refine ev_iconst (1 : Int32) dX8_thief_1 (by decide) ?_
  refine ev_ldc (1048575 : Int32) dX8_thief_2 lc_X8_109 ?_
  obtain ⟨z1, hz1, h⟩ := bv_bd h
  refine er_SP [.int _, .int _, .int _] (fun _ _ q => q) lk_X8_47 dX8_thief_4 rfl rfl rfl rfl (wm_X8_in _ _ _ _ _ hz1) ?_
  refine ev_if_ne 17 dX8_thief_7 (by decide) (fun c1 => ?_) (fun c1 => ?_)
  · replace h := bv_ff c1 h
    refine ev_aload_n dX8_thief_17 rfl ?_
    obtain ⟨z2, hz2, h⟩ := bv_bd h
    refine er_VV [] (fun _ _ q => q) lk_X8_207 dX8_thief_18 rfl rfl rfl rfl rfl (wm_X8_thinks  _ _ hz2) ?_
    refine ev_iconst (0 : Int32) dX8_thief_21 (by decide) ?_
    refine ev_istore_n dX8_thief_22 rfl rfl ?_
    exact ev_weak (by exact And.intro rfl (And.intro rfl (And.intro rfl (trivial)))) (wb_X8_thief_23  400 _ _ _ _ h)
  · replace h := bv_tt c1 h
    refine ev_aload_n dX8_thief_10 rfl ?_
    refine ev_ldc (-1000000001 : Int32) dX8_thief_11 lc_X8_72 ?_
    obtain ⟨z3, hz3, h⟩ := bv_bd h
    refine er_VI [.int _] (fun _ _ q => q) lk_X8_73 dX8_thief_13 rfl rfl rfl rfl rfl (wm_X8_error _ _ _ hz3) ?_
    obtain rfl := Option.some.inj h
    exact ev_iret rfl dX8_thief_16 ⟨rfl, rfl, rfl⟩
theorem wm_X8_thief   (l1 : Int32) (mi : bv_Mem) (z : Int32 × bv_Mem) (h : f_X8_thief  l1 mi = some z) : bv_Met yX8_thief MX8_thief bv_X0 3 74 74 [.ref 61, .int l1] (bv_mr mi) mi (bv_QI z) :=
  bv_Met.of (pn_X 8 (by decide)) rfl (fun q => absurd q Bool.false_ne_true) (Nat.le_of_ble_eq_true rfl) (we_X8_thief   l1 mi z h)
set_option maxRecDepth 100000 in
set_option maxHeartbeats 4000000 in
theorem wb_X8_both_6 (mi : bv_Mem) : ∀ (fu : Nat) (l1 : Int32) (l2 : Int32) (l3 : Int32) (z : Int32), b_X8_both_6 mi fu l1 l2 l3 = some z → bv_Ev MX8_both bv_X0 3 74 74 (bv_QP z mi) 6 [some (.ref 61), some (.int l1), some (.int l2), some (.int l3)] [] 74 (bv_mr mi) mi := by
  intro fu
  induction fu with
  | zero =>
    intro l1 l2 l3 z h
    rw [b_X8_both_6] at h
    cases h
  | succ fu ih =>
    intro l1 l2 l3 z h
    rw [b_X8_both_6] at h
    refine ev_iload_n dX8_both_6 rfl ?_
    refine ev_aload_n dX8_both_7 rfl ?_
    refine ev_getR 62 lf_X8_9 dX8_both_8 rfl rfl rfl ?_
    refine ev_iconst (2 : Int32) dX8_both_11 (by decide) ?_
    refine er_ialdk (N := 371) 2 dX8_both_12 rfl rfl rfl ?_
    refine ev_icmp_ge 56 dX8_both_13 (by decide) (fun c1 => ?_) (fun c1 => ?_)
    · replace h := bv_tt c1 h
      refine ev_iload_n dX8_both_56 rfl ?_
      refine ev_iload_n dX8_both_57 rfl ?_
      refine ev_iand dX8_both_58 ?_
      obtain rfl := Option.some.inj h
      exact ev_iret rfl dX8_both_59 ⟨rfl, rfl, rfl⟩
    · replace h := bv_ff c1 h
      refine ev_iload_n dX8_both_16 rfl ?_
      refine ev_aload_n dX8_both_17 rfl ?_
      refine ev_aload_n dX8_both_18 rfl ?_
      refine ev_getR 62 lf_X8_9 dX8_both_19 rfl rfl rfl ?_
      refine ev_bipush (6 : Int32) dX8_both_22 (by decide) ?_
      refine ev_iload_n dX8_both_24 rfl ?_
      refine ev_iadd dX8_both_25 ?_
      obtain ⟨g1, h⟩ := bv_gd h
      refine ev_iald (N := 371) dX8_both_26 rfl g1 ?_
      refine ev_iconst (0 : Int32) dX8_both_27 (by decide) ?_
      obtain ⟨z1, hz1, h⟩ := bv_bd h
      refine er_VP [.int _, .int _] (fun _ _ q => q) lk_X8_62 dX8_both_28 rfl rfl rfl rfl rfl (wm_X8_viewOf _ _ _ _ hz1) ?_
      refine ev_ior dX8_both_31 ?_
      refine ev_istore_n dX8_both_32 rfl rfl ?_
      refine ev_iload_n dX8_both_33 rfl ?_
      refine ev_aload_n dX8_both_34 rfl ?_
      refine ev_aload_n dX8_both_35 rfl ?_
      refine ev_getR 62 lf_X8_9 dX8_both_36 rfl rfl rfl ?_
      refine ev_bipush (6 : Int32) dX8_both_39 (by decide) ?_
      refine ev_iload_n dX8_both_41 rfl ?_
      refine ev_iadd dX8_both_42 ?_
      refine ev_iald (N := 371) dX8_both_43 rfl g1 ?_
      refine ev_iconst (1 : Int32) dX8_both_44 (by decide) ?_
      obtain ⟨z2, hz2, h⟩ := bv_bd h
      refine er_VP [.int _, .int _] (fun _ _ q => q) lk_X8_62 dX8_both_45 rfl rfl rfl rfl rfl (wm_X8_viewOf _ _ _ _ hz2) ?_
      refine ev_ior dX8_both_48 ?_
      refine ev_istore_n dX8_both_49 rfl rfl ?_
      refine ev_iinc (l3 + 1) dX8_both_50 rfl rfl rfl rfl ?_
      refine ev_goto 6 dX8_both_53 (by decide) ?_
      exact ev_weak (by exact And.intro rfl (And.intro rfl (And.intro rfl (And.intro rfl (trivial))))) (ih _ _ _ _ h)
set_option maxRecDepth 100000 in
set_option maxHeartbeats 4000000 in
theorem we_X8_both    (mi : bv_Mem) (z : Int32) (h : f_X8_both  mi = some z) : bv_Ev MX8_both bv_X0 3 74 74 (bv_QP z mi) 0 [some (.ref 61), none, none, none] [] 74 (bv_mr mi) mi := by
  unfold f_X8_both at h
  refine ev_iconst (0 : Int32) dX8_both_0 (by decide) ?_
  refine ev_istore_n dX8_both_1 rfl rfl ?_
  refine ev_iconst (0 : Int32) dX8_both_2 (by decide) ?_
  refine ev_istore_n dX8_both_3 rfl rfl ?_
  refine ev_iconst (0 : Int32) dX8_both_4 (by decide) ?_
  refine ev_istore_n dX8_both_5 rfl rfl ?_
  exact ev_weak (by exact And.intro rfl (And.intro rfl (And.intro rfl (And.intro rfl (trivial))))) (wb_X8_both_6 mi 400 _ _ _ _ h)
theorem wm_X8_both    (mi : bv_Mem) (z : Int32) (h : f_X8_both  mi = some z) : bv_Met yX8_both MX8_both bv_X0 3 74 74 [.ref 61] (bv_mr mi) mi (bv_QP z mi) :=
  bv_Met.of (pn_X 8 (by decide)) rfl (fun q => absurd q Bool.false_ne_true) (Nat.le_of_ble_eq_true rfl) (we_X8_both   mi z h)
set_option maxRecDepth 100000 in
set_option maxHeartbeats 4000000 in
theorem we_X8_seed   (l1 : Int32) (mi : bv_Mem) (z : Int32 × bv_Mem) (h : f_X8_seed  l1 mi = some z) : bv_Ev MX8_seed bv_X0 1 74 74 (bv_QI z) 0 [some (.ref 61), some (.int l1)] [] 74 (bv_mr mi) mi := by
  unfold f_X8_seed at h
  refine ev_aload_n dX8_seed_0 rfl ?_
  refine ev_iconst (1 : Int32) dX8_seed_1 (by decide) ?_
  refine ev_iload_n dX8_seed_2 rfl ?_
  obtain ⟨z1, hz1, h⟩ := bv_bd h
  refine er_VI [.int _, .int _] (fun _ _ q => q) lk_X8_76 dX8_seed_3 rfl rfl rfl rfl rfl (wm_X8_becomes _ _ _ _ hz1) ?_
  obtain rfl := Option.some.inj h
  exact ev_iret rfl dX8_seed_6 ⟨rfl, rfl, rfl⟩
theorem wm_X8_seed   (l1 : Int32) (mi : bv_Mem) (z : Int32 × bv_Mem) (h : f_X8_seed  l1 mi = some z) : bv_Met yX8_seed MX8_seed bv_X0 1 74 74 [.ref 61, .int l1] (bv_mr mi) mi (bv_QI z) :=
  bv_Met.of (pn_X 8 (by decide)) rfl (fun q => absurd q Bool.false_ne_true) (Nat.le_of_ble_eq_true rfl) (we_X8_seed   l1 mi z h)
set_option maxRecDepth 100000 in
set_option maxHeartbeats 4000000 in
theorem we_X8_begins   (l1 : Int32) (mi : bv_Mem) (z : bv_Mem) (h : f_X8_begins  l1 mi = some z) : bv_Ev MX8_begins bv_X0 0 74 74 (bv_QV z) 0 [some (.ref 61), some (.int l1)] [] 74 (bv_mr mi) mi := by
  unfold f_X8_begins at h
  refine ev_aload_n dX8_begins_0 rfl ?_
  refine ev_getI lf_X8_220 dX8_begins_1 rfl rfl ?_
  refine ev_bipush (40 : Int32) dX8_begins_4 (by decide) ?_
  refine ev_icmp_ge 29 dX8_begins_6 (by decide) (fun c1 => ?_) (fun c1 => ?_)
  · replace h := bv_tt c1 h
    obtain rfl := Option.some.inj h
    exact ev_vret rfl dX8_begins_29 ⟨rfl, rfl, rfl⟩
  · replace h := bv_ff c1 h
    refine ev_aload_n dX8_begins_9 rfl ?_
    refine ev_getR 70 lf_X8_34 dX8_begins_10 rfl rfl rfl ?_
    refine ev_aload_n dX8_begins_13 rfl ?_
    refine ev_getI lf_X8_220 dX8_begins_14 rfl rfl ?_
    refine ev_iload_n dX8_begins_17 rfl ?_
    obtain ⟨g1, h⟩ := bv_gd h
    refine er_iast (N := 40) dX8_begins_18 rfl g1 ?_
    refine ev_aload_n dX8_begins_19 rfl ?_
    refine ev_dup dX8_begins_20 rfl ?_
    refine ev_getI lf_X8_220 dX8_begins_21 rfl rfl ?_
    refine ev_iconst (1 : Int32) dX8_begins_24 (by decide) ?_
    refine ev_iadd dX8_begins_25 ?_
    refine er_putI lf_X8_220 dX8_begins_26 rfl rfl rfl rfl ?_
    obtain rfl := Option.some.inj h
    exact ev_vret rfl dX8_begins_29 ⟨rfl, rfl, rfl⟩
theorem wm_X8_begins   (l1 : Int32) (mi : bv_Mem) (z : bv_Mem) (h : f_X8_begins  l1 mi = some z) : bv_Met yX8_begins MX8_begins bv_X0 0 74 74 [.ref 61, .int l1] (bv_mr mi) mi (bv_QV z) :=
  bv_Met.of (pn_X 8 (by decide)) rfl (fun q => absurd q Bool.false_ne_true) (Nat.le_of_ble_eq_true rfl) (we_X8_begins   l1 mi z h)
set_option maxRecDepth 100000 in
set_option maxHeartbeats 4000000 in
theorem we_X8_plainPours   (l1 : Int32) (l2 : Int32) (mi : bv_Mem) (z : Int32 × bv_Mem) (h : f_X8_plainPours  l1 l2 mi = some z) : bv_Ev MX8_plainPours bv_X0 1 74 74 (bv_QI z) 0 [some (.ref 61), some (.int l1), some (.int l2)] [] 74 (bv_mr mi) mi := by
  unfold f_X8_plainPours at h
  refine ev_aload_n dX8_plainPours_0 rfl ?_
  refine ev_bipush (10 : Int32) dX8_plainPours_1 (by decide) ?_
  obtain ⟨z1, hz1, h⟩ := bv_bd h
  refine er_VV [.int _] (fun _ _ q => q) lk_X8_223 dX8_plainPours_3 rfl rfl rfl rfl rfl (wm_X8_begins _ _ _ hz1) ?_
  refine ev_iload_n dX8_plainPours_6 rfl ?_
  refine ev_iload_n dX8_plainPours_7 rfl ?_
  refine ev_iadd dX8_plainPours_8 ?_
  obtain rfl := Option.some.inj h
  exact ev_iret rfl dX8_plainPours_9 ⟨rfl, rfl, rfl⟩
theorem wm_X8_plainPours   (l1 : Int32) (l2 : Int32) (mi : bv_Mem) (z : Int32 × bv_Mem) (h : f_X8_plainPours  l1 l2 mi = some z) : bv_Met yX8_plainPours MX8_plainPours bv_X0 1 74 74 [.ref 61, .int l1, .int l2] (bv_mr mi) mi (bv_QI z) :=
  bv_Met.of (pn_X 8 (by decide)) rfl (fun q => absurd q Bool.false_ne_true) (Nat.le_of_ble_eq_true rfl) (we_X8_plainPours   l1 l2 mi z h)
set_option maxRecDepth 100000 in
set_option maxHeartbeats 4000000 in
theorem we_X8_pours   (l1 : Int32) (l2 : Int32) (mi : bv_Mem) (z : Int32 × bv_Mem) (h : f_X8_pours  l1 l2 mi = some z) : bv_Ev MX8_pours bv_X0 2 74 74 (bv_QI z) 0 [some (.ref 61), some (.int l1), some (.int l2), none] [] 74 (bv_mr mi) mi := by
  unfold f_X8_pours at h
  refine ev_aload_n dX8_pours_0 rfl ?_
  refine ev_iload_n dX8_pours_1 rfl ?_
  refine ev_iconst (0 : Int32) dX8_pours_2 (by decide) ?_
  obtain ⟨z1, hz1, h⟩ := bv_bd h
  refine er_VP [.int _, .int _] (fun _ _ q => q) lk_X8_89 dX8_pours_3 rfl rfl rfl rfl rfl (wm_X8_of _ _ _ _ hz1) ?_
  refine ev_istore_n dX8_pours_6 rfl rfl ?_
  refine ev_iload_n dX8_pours_7 rfl ?_
  refine ev_iconst (1 : Int32) dX8_pours_8 (by decide) ?_
  refine ev_icmp_eq 17 dX8_pours_9 (by decide) (fun c1 => ?_) (fun c1 => ?_)
  · replace h := bv_tt c1 h
    refine ev_aload_n dX8_pours_17 rfl ?_
    refine ev_bipush (20 : Int32) dX8_pours_18 (by decide) ?_
    obtain ⟨z2, hz2, h⟩ := bv_bd h
    refine er_VV [.int _] (fun _ _ q => q) lk_X8_223 dX8_pours_20 rfl rfl rfl rfl rfl (wm_X8_begins _ _ _ hz2) ?_
    refine ev_aload_n dX8_pours_23 rfl ?_
    refine ev_iload_n dX8_pours_24 rfl ?_
    refine ev_iload_n dX8_pours_25 rfl ?_
    obtain ⟨z3, hz3, h⟩ := bv_bd h
    refine er_VI [.int _, .int _] (fun _ _ q => q) lk_X8_226 dX8_pours_26 rfl rfl rfl rfl rfl (wm_X8_plainPours _ _ _ _ hz3) ?_
    refine ev_iconst (3 : Int32) dX8_pours_29 (by decide) ?_
    refine ev_imul dX8_pours_30 ?_
    obtain rfl := Option.some.inj h
    exact ev_iret rfl dX8_pours_31 ⟨rfl, rfl, rfl⟩
  · replace h := bv_ff c1 h
    refine ev_iload_n dX8_pours_12 rfl ?_
    refine ev_iconst (4 : Int32) dX8_pours_13 (by decide) ?_
    refine ev_icmp_ne 32 dX8_pours_14 (by decide) (fun c2 => ?_) (fun c2 => ?_)
    · replace h := bv_ff c2 h
      refine ev_aload_n dX8_pours_32 rfl ?_
      refine ev_iload_n dX8_pours_33 rfl ?_
      refine ev_iload_n dX8_pours_34 rfl ?_
      obtain ⟨z4, hz4, h⟩ := bv_bd h
      refine er_VI [.int _, .int _] (fun _ _ q => q) lk_X8_226 dX8_pours_35 rfl rfl rfl rfl rfl (wm_X8_plainPours _ _ _ _ hz4) ?_
      obtain rfl := Option.some.inj h
      exact ev_iret rfl dX8_pours_38 ⟨rfl, rfl, rfl⟩
    · replace h := bv_tt c2 h
      refine ev_aload_n dX8_pours_17 rfl ?_
      refine ev_bipush (20 : Int32) dX8_pours_18 (by decide) ?_
      obtain ⟨z5, hz5, h⟩ := bv_bd h
      refine er_VV [.int _] (fun _ _ q => q) lk_X8_223 dX8_pours_20 rfl rfl rfl rfl rfl (wm_X8_begins _ _ _ hz5) ?_
      refine ev_aload_n dX8_pours_23 rfl ?_
      refine ev_iload_n dX8_pours_24 rfl ?_
      refine ev_iload_n dX8_pours_25 rfl ?_
      obtain ⟨z6, hz6, h⟩ := bv_bd h
      refine er_VI [.int _, .int _] (fun _ _ q => q) lk_X8_226 dX8_pours_26 rfl rfl rfl rfl rfl (wm_X8_plainPours _ _ _ _ hz6) ?_
      refine ev_iconst (3 : Int32) dX8_pours_29 (by decide) ?_
      refine ev_imul dX8_pours_30 ?_
      obtain rfl := Option.some.inj h
      exact ev_iret rfl dX8_pours_31 ⟨rfl, rfl, rfl⟩
theorem wm_X8_pours   (l1 : Int32) (l2 : Int32) (mi : bv_Mem) (z : Int32 × bv_Mem) (h : f_X8_pours  l1 l2 mi = some z) : bv_Met yX8_pours MX8_pours bv_X0 2 74 74 [.ref 61, .int l1, .int l2] (bv_mr mi) mi (bv_QI z) :=
  bv_Met.of (pn_X 8 (by decide)) rfl (fun q => absurd q Bool.false_ne_true) (Nat.le_of_ble_eq_true rfl) (we_X8_pours   l1 l2 mi z h)
set_option maxRecDepth 100000 in
set_option maxHeartbeats 4000000 in
theorem we_X8_plainCosts   (l1 : Int32) (l2 : Int32) (mi : bv_Mem) (z : Int32 × bv_Mem) (h : f_X8_plainCosts  l1 l2 mi = some z) : bv_Ev MX8_plainCosts bv_X0 3 74 74 (bv_QI z) 0 [some (.ref 61), some (.int l1), some (.int l2)] [] 74 (bv_mr mi) mi := by
  unfold f_X8_plainCosts at h
  refine ev_aload_n dX8_plainCosts_0 rfl ?_
  refine ev_bipush (11 : Int32) dX8_plainCosts_1 (by decide) ?_
  obtain ⟨z1, hz1, h⟩ := bv_bd h
  refine er_VV [.int _] (fun _ _ q => q) lk_X8_223 dX8_plainCosts_3 rfl rfl rfl rfl rfl (wm_X8_begins _ _ _ hz1) ?_
  refine ev_aload_n dX8_plainCosts_6 rfl ?_
  refine ev_iload_n dX8_plainCosts_7 rfl ?_
  refine ev_iload_n dX8_plainCosts_8 rfl ?_
  obtain ⟨z2, hz2, h⟩ := bv_bd h
  refine er_VI [.int _, .int _] (fun _ _ q => q) lk_X8_229 dX8_plainCosts_9 rfl rfl rfl rfl rfl (wm_X8_pours _ _ _ _ hz2) ?_
  refine ev_iconst (2 : Int32) dX8_plainCosts_12 (by decide) ?_
  refine ev_imul dX8_plainCosts_13 ?_
  obtain rfl := Option.some.inj h
  exact ev_iret rfl dX8_plainCosts_14 ⟨rfl, rfl, rfl⟩
theorem wm_X8_plainCosts   (l1 : Int32) (l2 : Int32) (mi : bv_Mem) (z : Int32 × bv_Mem) (h : f_X8_plainCosts  l1 l2 mi = some z) : bv_Met yX8_plainCosts MX8_plainCosts bv_X0 3 74 74 [.ref 61, .int l1, .int l2] (bv_mr mi) mi (bv_QI z) :=
  bv_Met.of (pn_X 8 (by decide)) rfl (fun q => absurd q Bool.false_ne_true) (Nat.le_of_ble_eq_true rfl) (we_X8_plainCosts   l1 l2 mi z h)
set_option maxRecDepth 100000 in
set_option maxHeartbeats 4000000 in
theorem we_X8_plainAges   (l1 : Int32) (l2 : Int32) (mi : bv_Mem) (z : Int32 × bv_Mem) (h : f_X8_plainAges  l1 l2 mi = some z) : bv_Ev MX8_plainAges bv_X0 1 74 74 (bv_QI z) 0 [some (.ref 61), some (.int l1), some (.int l2)] [] 74 (bv_mr mi) mi := by
  unfold f_X8_plainAges at h
  refine ev_aload_n dX8_plainAges_0 rfl ?_
  refine ev_bipush (12 : Int32) dX8_plainAges_1 (by decide) ?_
  obtain ⟨z1, hz1, h⟩ := bv_bd h
  refine er_VV [.int _] (fun _ _ q => q) lk_X8_223 dX8_plainAges_3 rfl rfl rfl rfl rfl (wm_X8_begins _ _ _ hz1) ?_
  refine ev_iload_n dX8_plainAges_6 rfl ?_
  refine ev_aload_n dX8_plainAges_7 rfl ?_
  refine ev_iload_n dX8_plainAges_8 rfl ?_
  refine ev_iconst (1 : Int32) dX8_plainAges_9 (by decide) ?_
  obtain ⟨z2, hz2, h⟩ := bv_bd h
  refine er_VP [.int _, .int _] (fun _ _ q => q) lk_X8_89 dX8_plainAges_10 rfl rfl rfl rfl rfl (wm_X8_of _ _ _ _ hz2) ?_
  refine ev_isub dX8_plainAges_13 ?_
  obtain rfl := Option.some.inj h
  exact ev_iret rfl dX8_plainAges_14 ⟨rfl, rfl, rfl⟩
theorem wm_X8_plainAges   (l1 : Int32) (l2 : Int32) (mi : bv_Mem) (z : Int32 × bv_Mem) (h : f_X8_plainAges  l1 l2 mi = some z) : bv_Met yX8_plainAges MX8_plainAges bv_X0 1 74 74 [.ref 61, .int l1, .int l2] (bv_mr mi) mi (bv_QI z) :=
  bv_Met.of (pn_X 8 (by decide)) rfl (fun q => absurd q Bool.false_ne_true) (Nat.le_of_ble_eq_true rfl) (we_X8_plainAges   l1 l2 mi z h)
set_option maxRecDepth 100000 in
set_option maxHeartbeats 4000000 in
theorem we_X8_oldAges   (l1 : Int32) (l2 : Int32) (mi : bv_Mem) (z : Int32 × bv_Mem) (h : f_X8_oldAges  l1 l2 mi = some z) : bv_Ev MX8_oldAges bv_X0 2 74 74 (bv_QI z) 0 [some (.ref 61), some (.int l1), some (.int l2)] [] 74 (bv_mr mi) mi := by
  unfold f_X8_oldAges at h
  refine ev_aload_n dX8_oldAges_0 rfl ?_
  refine ev_bipush (40 : Int32) dX8_oldAges_1 (by decide) ?_
  obtain ⟨z1, hz1, h⟩ := bv_bd h
  refine er_VV [.int _] (fun _ _ q => q) lk_X8_223 dX8_oldAges_3 rfl rfl rfl rfl rfl (wm_X8_begins _ _ _ hz1) ?_
  refine ev_aload_n dX8_oldAges_6 rfl ?_
  refine ev_iload_n dX8_oldAges_7 rfl ?_
  refine ev_iload_n dX8_oldAges_8 rfl ?_
  obtain ⟨z2, hz2, h⟩ := bv_bd h
  refine er_VI [.int _, .int _] (fun _ _ q => q) lk_X8_241 dX8_oldAges_9 rfl rfl rfl rfl rfl (wm_X8_plainAges _ _ _ _ hz2) ?_
  refine ev_ineg dX8_oldAges_12 ?_
  obtain rfl := Option.some.inj h
  exact ev_iret rfl dX8_oldAges_13 ⟨rfl, rfl, rfl⟩
theorem wm_X8_oldAges   (l1 : Int32) (l2 : Int32) (mi : bv_Mem) (z : Int32 × bv_Mem) (h : f_X8_oldAges  l1 l2 mi = some z) : bv_Met yX8_oldAges MX8_oldAges bv_X0 2 74 74 [.ref 61, .int l1, .int l2] (bv_mr mi) mi (bv_QI z) :=
  bv_Met.of (pn_X 8 (by decide)) rfl (fun q => absurd q Bool.false_ne_true) (Nat.le_of_ble_eq_true rfl) (we_X8_oldAges   l1 l2 mi z h)
set_option maxRecDepth 100000 in
set_option maxHeartbeats 4000000 in
theorem we_X8_ages   (l1 : Int32) (l2 : Int32) (mi : bv_Mem) (z : Int32 × bv_Mem) (h : f_X8_ages  l1 l2 mi = some z) : bv_Ev MX8_ages bv_X0 3 74 74 (bv_QI z) 0 [some (.ref 61), some (.int l1), some (.int l2), none] [] 74 (bv_mr mi) mi := by
  unfold f_X8_ages at h
  refine ev_aload_n dX8_ages_0 rfl ?_
  refine ev_iload_n dX8_ages_1 rfl ?_
  refine ev_iconst (0 : Int32) dX8_ages_2 (by decide) ?_
  obtain ⟨z1, hz1, h⟩ := bv_bd h
  refine er_VP [.int _, .int _] (fun _ _ q => q) lk_X8_89 dX8_ages_3 rfl rfl rfl rfl rfl (wm_X8_of _ _ _ _ hz1) ?_
  refine ev_istore_n dX8_ages_6 rfl rfl ?_
  refine ev_iload_n dX8_ages_7 rfl ?_
  refine ev_bipush (6 : Int32) dX8_ages_8 (by decide) ?_
  refine ev_icmp_ne 28 dX8_ages_10 (by decide) (fun c1 => ?_) (fun c1 => ?_)
  · replace h := bv_ff c1 h
    refine ev_iload_n dX8_ages_28 rfl ?_
    refine ev_iconst (3 : Int32) dX8_ages_29 (by decide) ?_
    refine ev_icmp_ne 42 dX8_ages_30 (by decide) (fun c2 => ?_) (fun c2 => ?_)
    · replace h := bv_ff c2 h
      refine ev_aload_n dX8_ages_42 rfl ?_
      refine ev_iload_n dX8_ages_43 rfl ?_
      refine ev_iload_n dX8_ages_44 rfl ?_
      obtain ⟨z2, hz2, h⟩ := bv_bd h
      refine er_VI [.int _, .int _] (fun _ _ q => q) lk_X8_241 dX8_ages_45 rfl rfl rfl rfl rfl (wm_X8_plainAges _ _ _ _ hz2) ?_
      obtain rfl := Option.some.inj h
      exact ev_iret rfl dX8_ages_48 ⟨rfl, rfl, rfl⟩
    · replace h := bv_tt c2 h
      refine ev_aload_n dX8_ages_33 rfl ?_
      refine ev_iload_n dX8_ages_34 rfl ?_
      refine ev_iload_n dX8_ages_35 rfl ?_
      obtain ⟨z3, hz3, h⟩ := bv_bd h
      refine er_VI [.int _, .int _] (fun _ _ q => q) lk_X8_244 dX8_ages_36 rfl rfl rfl rfl rfl (wm_X8_oldAges _ _ _ _ hz3) ?_
      refine ev_goto 48 dX8_ages_39 (by decide) ?_
      obtain rfl := Option.some.inj h
      exact ev_iret rfl dX8_ages_48 ⟨rfl, rfl, rfl⟩
  · replace h := bv_tt c1 h
    refine ev_aload_n dX8_ages_13 rfl ?_
    refine ev_bipush (70 : Int32) dX8_ages_14 (by decide) ?_
    obtain ⟨z4, hz4, h⟩ := bv_bd h
    refine er_VV [.int _] (fun _ _ q => q) lk_X8_223 dX8_ages_16 rfl rfl rfl rfl rfl (wm_X8_begins _ _ _ hz4) ?_
    refine ev_aload_n dX8_ages_19 rfl ?_
    refine ev_iload_n dX8_ages_20 rfl ?_
    refine ev_iload_n dX8_ages_21 rfl ?_
    obtain ⟨z5, hz5, h⟩ := bv_bd h
    refine er_VI [.int _, .int _] (fun _ _ q => q) lk_X8_244 dX8_ages_22 rfl rfl rfl rfl rfl (wm_X8_oldAges _ _ _ _ hz5) ?_
    refine ev_iload_n dX8_ages_25 rfl ?_
    refine ev_ixor dX8_ages_26 ?_
    obtain rfl := Option.some.inj h
    exact ev_iret rfl dX8_ages_27 ⟨rfl, rfl, rfl⟩
theorem wm_X8_ages   (l1 : Int32) (l2 : Int32) (mi : bv_Mem) (z : Int32 × bv_Mem) (h : f_X8_ages  l1 l2 mi = some z) : bv_Met yX8_ages MX8_ages bv_X0 3 74 74 [.ref 61, .int l1, .int l2] (bv_mr mi) mi (bv_QI z) :=
  bv_Met.of (pn_X 8 (by decide)) rfl (fun q => absurd q Bool.false_ne_true) (Nat.le_of_ble_eq_true rfl) (we_X8_ages   l1 l2 mi z h)
set_option maxRecDepth 100000 in
set_option maxHeartbeats 4000000 in
theorem we_X8_cutCosts   (l1 : Int32) (l2 : Int32) (mi : bv_Mem) (z : Int32 × bv_Mem) (h : f_X8_cutCosts  l1 l2 mi = some z) : bv_Ev MX8_cutCosts bv_X0 4 74 74 (bv_QI z) 0 [some (.ref 61), some (.int l1), some (.int l2), none] [] 74 (bv_mr mi) mi := by
  unfold f_X8_cutCosts at h
  refine ev_aload_n dX8_cutCosts_0 rfl ?_
  refine ev_bipush (30 : Int32) dX8_cutCosts_1 (by decide) ?_
  obtain ⟨z1, hz1, h⟩ := bv_bd h
  refine er_VV [.int _] (fun _ _ q => q) lk_X8_223 dX8_cutCosts_3 rfl rfl rfl rfl rfl (wm_X8_begins _ _ _ hz1) ?_
  refine ev_aload_n dX8_cutCosts_6 rfl ?_
  refine ev_iload_n dX8_cutCosts_7 rfl ?_
  refine ev_iload_n dX8_cutCosts_8 rfl ?_
  obtain ⟨z2, hz2, h⟩ := bv_bd h
  refine er_VI [.int _, .int _] (fun _ _ q => q) lk_X8_232 dX8_cutCosts_9 rfl rfl rfl rfl rfl (wm_X8_plainCosts _ _ _ _ hz2) ?_
  refine ev_istore_n dX8_cutCosts_12 rfl rfl ?_
  refine ev_iload_n dX8_cutCosts_13 rfl ?_
  refine ev_aload_n dX8_cutCosts_14 rfl ?_
  refine ev_iload_n dX8_cutCosts_15 rfl ?_
  refine ev_iconst (1 : Int32) dX8_cutCosts_16 (by decide) ?_
  obtain ⟨z3, hz3, h⟩ := bv_bd h
  refine er_VI [.int _, .int _] (fun _ _ q => q) lk_X8_235 dX8_cutCosts_17 rfl rfl rfl rfl rfl (wm_X8_ages _ _ _ _ hz3) ?_
  refine ev_isub dX8_cutCosts_20 ?_
  obtain rfl := Option.some.inj h
  exact ev_iret rfl dX8_cutCosts_21 ⟨rfl, rfl, rfl⟩
theorem wm_X8_cutCosts   (l1 : Int32) (l2 : Int32) (mi : bv_Mem) (z : Int32 × bv_Mem) (h : f_X8_cutCosts  l1 l2 mi = some z) : bv_Met yX8_cutCosts MX8_cutCosts bv_X0 4 74 74 [.ref 61, .int l1, .int l2] (bv_mr mi) mi (bv_QI z) :=
  bv_Met.of (pn_X 8 (by decide)) rfl (fun q => absurd q Bool.false_ne_true) (Nat.le_of_ble_eq_true rfl) (we_X8_cutCosts   l1 l2 mi z h)
set_option maxRecDepth 100000 in
set_option maxHeartbeats 4000000 in
theorem we_X8_costs   (l1 : Int32) (l2 : Int32) (mi : bv_Mem) (z : Int32 × bv_Mem) (h : f_X8_costs  l1 l2 mi = some z) : bv_Ev MX8_costs bv_X0 5 74 74 (bv_QI z) 0 [some (.ref 61), some (.int l1), some (.int l2), none] [] 74 (bv_mr mi) mi := by
  unfold f_X8_costs at h
  refine ev_aload_n dX8_costs_0 rfl ?_
  refine ev_iload_n dX8_costs_1 rfl ?_
  refine ev_iconst (0 : Int32) dX8_costs_2 (by decide) ?_
  obtain ⟨z1, hz1, h⟩ := bv_bd h
  refine er_VP [.int _, .int _] (fun _ _ q => q) lk_X8_89 dX8_costs_3 rfl rfl rfl rfl rfl (wm_X8_of _ _ _ _ hz1) ?_
  refine ev_istore_n dX8_costs_6 rfl rfl ?_
  refine ev_iload_n dX8_costs_7 rfl ?_
  refine ev_iconst (5 : Int32) dX8_costs_8 (by decide) ?_
  refine ev_icmp_ne 27 dX8_costs_9 (by decide) (fun c1 => ?_) (fun c1 => ?_)
  · replace h := bv_ff c1 h
    refine ev_iload_n dX8_costs_27 rfl ?_
    refine ev_iconst (2 : Int32) dX8_costs_28 (by decide) ?_
    refine ev_icmp_ne 41 dX8_costs_29 (by decide) (fun c2 => ?_) (fun c2 => ?_)
    · replace h := bv_ff c2 h
      refine ev_aload_n dX8_costs_41 rfl ?_
      refine ev_iload_n dX8_costs_42 rfl ?_
      refine ev_iload_n dX8_costs_43 rfl ?_
      obtain ⟨z2, hz2, h⟩ := bv_bd h
      refine er_VI [.int _, .int _] (fun _ _ q => q) lk_X8_232 dX8_costs_44 rfl rfl rfl rfl rfl (wm_X8_plainCosts _ _ _ _ hz2) ?_
      obtain rfl := Option.some.inj h
      exact ev_iret rfl dX8_costs_47 ⟨rfl, rfl, rfl⟩
    · replace h := bv_tt c2 h
      refine ev_aload_n dX8_costs_32 rfl ?_
      refine ev_iload_n dX8_costs_33 rfl ?_
      refine ev_iload_n dX8_costs_34 rfl ?_
      obtain ⟨z3, hz3, h⟩ := bv_bd h
      refine er_VI [.int _, .int _] (fun _ _ q => q) lk_X8_238 dX8_costs_35 rfl rfl rfl rfl rfl (wm_X8_cutCosts _ _ _ _ hz3) ?_
      refine ev_goto 47 dX8_costs_38 (by decide) ?_
      obtain rfl := Option.some.inj h
      exact ev_iret rfl dX8_costs_47 ⟨rfl, rfl, rfl⟩
  · replace h := bv_tt c1 h
    refine ev_aload_n dX8_costs_12 rfl ?_
    refine ev_bipush (60 : Int32) dX8_costs_13 (by decide) ?_
    obtain ⟨z4, hz4, h⟩ := bv_bd h
    refine er_VV [.int _] (fun _ _ q => q) lk_X8_223 dX8_costs_15 rfl rfl rfl rfl rfl (wm_X8_begins _ _ _ hz4) ?_
    refine ev_aload_n dX8_costs_18 rfl ?_
    refine ev_iload_n dX8_costs_19 rfl ?_
    refine ev_iload_n dX8_costs_20 rfl ?_
    refine ev_iconst (1 : Int32) dX8_costs_21 (by decide) ?_
    refine ev_iadd dX8_costs_22 ?_
    obtain ⟨z5, hz5, h⟩ := bv_bd h
    refine er_VI [.int _, .int _] (fun _ _ q => q) lk_X8_238 dX8_costs_23 rfl rfl rfl rfl rfl (wm_X8_cutCosts _ _ _ _ hz5) ?_
    obtain rfl := Option.some.inj h
    exact ev_iret rfl dX8_costs_26 ⟨rfl, rfl, rfl⟩
theorem wm_X8_costs   (l1 : Int32) (l2 : Int32) (mi : bv_Mem) (z : Int32 × bv_Mem) (h : f_X8_costs  l1 l2 mi = some z) : bv_Met yX8_costs MX8_costs bv_X0 5 74 74 [.ref 61, .int l1, .int l2] (bv_mr mi) mi (bv_QI z) :=
  bv_Met.of (pn_X 8 (by decide)) rfl (fun q => absurd q Bool.false_ne_true) (Nat.le_of_ble_eq_true rfl) (we_X8_costs   l1 l2 mi z h)
set_option maxRecDepth 100000 in
set_option maxHeartbeats 4000000 in
theorem we_X8_plainTells   (l1 : Int32) (l2 : Int32) (mi : bv_Mem) (z : Int32 × bv_Mem) (h : f_X8_plainTells  l1 l2 mi = some z) : bv_Ev MX8_plainTells bv_X0 6 74 74 (bv_QI z) 0 [some (.ref 61), some (.int l1), some (.int l2), none] [] 74 (bv_mr mi) mi := by
  unfold f_X8_plainTells at h
  refine ev_aload_n dX8_plainTells_0 rfl ?_
  refine ev_bipush (13 : Int32) dX8_plainTells_1 (by decide) ?_
  obtain ⟨z1, hz1, h⟩ := bv_bd h
  refine er_VV [.int _] (fun _ _ q => q) lk_X8_223 dX8_plainTells_3 rfl rfl rfl rfl rfl (wm_X8_begins _ _ _ hz1) ?_
  refine ev_aload_n dX8_plainTells_6 rfl ?_
  refine ev_iload_n dX8_plainTells_7 rfl ?_
  refine ev_iload_n dX8_plainTells_8 rfl ?_
  obtain ⟨z2, hz2, h⟩ := bv_bd h
  refine er_VI [.int _, .int _] (fun _ _ q => q) lk_X8_247 dX8_plainTells_9 rfl rfl rfl rfl rfl (wm_X8_costs _ _ _ _ hz2) ?_
  refine ev_istore_n dX8_plainTells_12 rfl rfl ?_
  refine ev_iload_n dX8_plainTells_13 rfl ?_
  refine ev_aload_n dX8_plainTells_14 rfl ?_
  refine ev_iload_n dX8_plainTells_15 rfl ?_
  refine ev_iload_n dX8_plainTells_16 rfl ?_
  obtain ⟨z3, hz3, h⟩ := bv_bd h
  refine er_VI [.int _, .int _] (fun _ _ q => q) lk_X8_235 dX8_plainTells_17 rfl rfl rfl rfl rfl (wm_X8_ages _ _ _ _ hz3) ?_
  refine ev_ixor dX8_plainTells_20 ?_
  obtain rfl := Option.some.inj h
  exact ev_iret rfl dX8_plainTells_21 ⟨rfl, rfl, rfl⟩
theorem wm_X8_plainTells   (l1 : Int32) (l2 : Int32) (mi : bv_Mem) (z : Int32 × bv_Mem) (h : f_X8_plainTells  l1 l2 mi = some z) : bv_Met yX8_plainTells MX8_plainTells bv_X0 6 74 74 [.ref 61, .int l1, .int l2] (bv_mr mi) mi (bv_QI z) :=
  bv_Met.of (pn_X 8 (by decide)) rfl (fun q => absurd q Bool.false_ne_true) (Nat.le_of_ble_eq_true rfl) (we_X8_plainTells   l1 l2 mi z h)
set_option maxRecDepth 100000 in
set_option maxHeartbeats 4000000 in
theorem we_X8_tells   (l1 : Int32) (l2 : Int32) (mi : bv_Mem) (z : Int32 × bv_Mem) (h : f_X8_tells  l1 l2 mi = some z) : bv_Ev MX8_tells bv_X0 7 74 74 (bv_QI z) 0 [some (.ref 61), some (.int l1), some (.int l2), none, none] [] 74 (bv_mr mi) mi := by
  unfold f_X8_tells at h
  refine ev_aload_n dX8_tells_0 rfl ?_
  refine ev_iload_n dX8_tells_1 rfl ?_
  refine ev_iconst (0 : Int32) dX8_tells_2 (by decide) ?_
  obtain ⟨z1, hz1, h⟩ := bv_bd h
  refine er_VP [.int _, .int _] (fun _ _ q => q) lk_X8_89 dX8_tells_3 rfl rfl rfl rfl rfl (wm_X8_of _ _ _ _ hz1) ?_
  refine ev_istore_n dX8_tells_6 rfl rfl ?_
  refine ev_iload_n dX8_tells_7 rfl ?_
  refine ev_iconst (4 : Int32) dX8_tells_8 (by decide) ?_
  refine ev_icmp_ne 36 dX8_tells_9 (by decide) (fun c1 => ?_) (fun c1 => ?_)
  · replace h := bv_ff c1 h
    refine ev_iload_n dX8_tells_36 rfl ?_
    refine ev_bipush (6 : Int32) dX8_tells_37 (by decide) ?_
    refine ev_icmp_ne 66 dX8_tells_39 (by decide) (fun c2 => ?_) (fun c2 => ?_)
    · replace h := bv_ff c2 h
      refine ev_aload_n dX8_tells_66 rfl ?_
      refine ev_iload_n dX8_tells_67 rfl ?_
      refine ev_iload_n dX8_tells_68 rfl ?_
      obtain ⟨z2, hz2, h⟩ := bv_bd h
      refine er_VI [.int _, .int _] (fun _ _ q => q) lk_X8_250 dX8_tells_69 rfl rfl rfl rfl rfl (wm_X8_plainTells _ _ _ _ hz2) ?_
      obtain rfl := Option.some.inj h
      exact ev_iret rfl dX8_tells_72 ⟨rfl, rfl, rfl⟩
    · replace h := bv_tt c2 h
      refine ev_aload_n dX8_tells_42 rfl ?_
      refine ev_bipush (71 : Int32) dX8_tells_43 (by decide) ?_
      obtain ⟨z3, hz3, h⟩ := bv_bd h
      refine er_VV [.int _] (fun _ _ q => q) lk_X8_223 dX8_tells_45 rfl rfl rfl rfl rfl (wm_X8_begins _ _ _ hz3) ?_
      refine ev_aload_n dX8_tells_48 rfl ?_
      refine ev_iload_n dX8_tells_49 rfl ?_
      refine ev_iload_n dX8_tells_50 rfl ?_
      obtain ⟨z4, hz4, h⟩ := bv_bd h
      refine er_VI [.int _, .int _] (fun _ _ q => q) lk_X8_247 dX8_tells_51 rfl rfl rfl rfl rfl (wm_X8_costs _ _ _ _ hz4) ?_
      refine ev_istore dX8_tells_54 rfl rfl ?_
      refine ev_iload dX8_tells_56 rfl ?_
      refine ev_aload_n dX8_tells_58 rfl ?_
      refine ev_iload_n dX8_tells_59 rfl ?_
      refine ev_iload_n dX8_tells_60 rfl ?_
      obtain ⟨z5, hz5, h⟩ := bv_bd h
      refine er_VI [.int _, .int _] (fun _ _ q => q) lk_X8_250 dX8_tells_61 rfl rfl rfl rfl rfl (wm_X8_plainTells _ _ _ _ hz5) ?_
      refine ev_isub dX8_tells_64 ?_
      obtain rfl := Option.some.inj h
      exact ev_iret rfl dX8_tells_65 ⟨rfl, rfl, rfl⟩
  · replace h := bv_tt c1 h
    refine ev_aload_n dX8_tells_12 rfl ?_
    refine ev_bipush (50 : Int32) dX8_tells_13 (by decide) ?_
    obtain ⟨z6, hz6, h⟩ := bv_bd h
    refine er_VV [.int _] (fun _ _ q => q) lk_X8_223 dX8_tells_15 rfl rfl rfl rfl rfl (wm_X8_begins _ _ _ hz6) ?_
    refine ev_aload_n dX8_tells_18 rfl ?_
    refine ev_iload_n dX8_tells_19 rfl ?_
    refine ev_iload_n dX8_tells_20 rfl ?_
    obtain ⟨z7, hz7, h⟩ := bv_bd h
    refine er_VI [.int _, .int _] (fun _ _ q => q) lk_X8_250 dX8_tells_21 rfl rfl rfl rfl rfl (wm_X8_plainTells _ _ _ _ hz7) ?_
    refine ev_istore dX8_tells_24 rfl rfl ?_
    refine ev_iload dX8_tells_26 rfl ?_
    refine ev_aload_n dX8_tells_28 rfl ?_
    refine ev_iload_n dX8_tells_29 rfl ?_
    refine ev_iconst (2 : Int32) dX8_tells_30 (by decide) ?_
    obtain ⟨z8, hz8, h⟩ := bv_bd h
    refine er_VI [.int _, .int _] (fun _ _ q => q) lk_X8_229 dX8_tells_31 rfl rfl rfl rfl rfl (wm_X8_pours _ _ _ _ hz8) ?_
    refine ev_isub dX8_tells_34 ?_
    obtain rfl := Option.some.inj h
    exact ev_iret rfl dX8_tells_35 ⟨rfl, rfl, rfl⟩
theorem wm_X8_tells   (l1 : Int32) (l2 : Int32) (mi : bv_Mem) (z : Int32 × bv_Mem) (h : f_X8_tells  l1 l2 mi = some z) : bv_Met yX8_tells MX8_tells bv_X0 7 74 74 [.ref 61, .int l1, .int l2] (bv_mr mi) mi (bv_QI z) :=
  bv_Met.of (pn_X 8 (by decide)) rfl (fun q => absurd q Bool.false_ne_true) (Nat.le_of_ble_eq_true rfl) (we_X8_tells   l1 l2 mi z h)
set_option maxRecDepth 100000 in
set_option maxHeartbeats 4000000 in
theorem we_X8_voice   (l1 : Int32) (l2 : Int32) (l3 : Int32) (mi : bv_Mem) (z : Int32 × bv_Mem) (h : f_X8_voice  l1 l2 l3 mi = some z) : bv_Ev MX8_voice bv_X0 8 74 74 (bv_QI z) 0 [some (.ref 61), some (.int l1), some (.int l2), some (.int l3)] [] 74 (bv_mr mi) mi := by
  unfold f_X8_voice at h
  refine ev_aload_n dX8_voice_0 rfl ?_
  refine ev_iload_n dX8_voice_1 rfl ?_
  obtain ⟨z1, hz1, h⟩ := bv_bd h
  refine er_VP [.int _] (fun _ _ q => q) lk_X8_115 dX8_voice_2 rfl rfl rfl rfl rfl (wm_X8_isBottle _ _ _ hz1) ?_
  refine ev_if_eq 17 dX8_voice_5 (by decide) (fun c1 => ?_) (fun c1 => ?_)
  · replace h := bv_tt c1 h
    refine ev_aload_n dX8_voice_17 rfl ?_
    refine ev_ldc (-1000000001 : Int32) dX8_voice_18 lc_X8_72 ?_
    obtain ⟨z2, hz2, h⟩ := bv_bd h
    refine er_VI [.int _] (fun _ _ q => q) lk_X8_73 dX8_voice_20 rfl rfl rfl rfl rfl (wm_X8_error _ _ _ hz2) ?_
    obtain rfl := Option.some.inj h
    exact ev_iret rfl dX8_voice_23 ⟨rfl, rfl, rfl⟩
  · replace h := bv_ff c1 h
    refine ev_iload_n dX8_voice_8 rfl ?_
    refine ev_iconst (0 : Int32) dX8_voice_9 (by decide) ?_
    refine ev_iconst (3 : Int32) dX8_voice_10 (by decide) ?_
    obtain ⟨z3, hz3, h⟩ := bv_bd h
    refine er_SP [.int _, .int _, .int _] (fun _ _ q => q) lk_X8_47 dX8_voice_11 rfl rfl rfl rfl (wm_X8_in _ _ _ _ _ hz3) ?_
    refine ev_if_ne 24 dX8_voice_14 (by decide) (fun c2 => ?_) (fun c2 => ?_)
    · replace h := bv_ff c2 h
      refine ev_aload_n dX8_voice_24 rfl ?_
      refine ev_iconst (0 : Int32) dX8_voice_25 (by decide) ?_
      refine er_putI lf_X8_220 dX8_voice_26 rfl rfl rfl rfl ?_
      refine ev_iload_n dX8_voice_29 rfl ?_
      by_cases c3 : l2 = (0 : Int32)
      · replace h := bv_tt c3 h
        refine ev_tableIn (26) 56 dX8_voice_30 (by rw [c3]; decide) (by rw [c3]; decide) (by rw [c3]; decide) (by decide) ?_
        refine ev_aload_n dX8_voice_56 rfl ?_
        refine ev_iload_n dX8_voice_57 rfl ?_
        refine ev_iload_n dX8_voice_58 rfl ?_
        obtain ⟨z4, hz4, h⟩ := bv_bd h
        refine er_VI [.int _, .int _] (fun _ _ q => q) lk_X8_229 dX8_voice_59 rfl rfl rfl rfl rfl (wm_X8_pours _ _ _ _ hz4) ?_
        obtain rfl := Option.some.inj h
        exact ev_iret rfl dX8_voice_62 ⟨rfl, rfl, rfl⟩
      replace h := bv_ff c3 h
      by_cases c4 : l2 = (1 : Int32)
      · replace h := bv_tt c4 h
        refine ev_tableIn (33) 63 dX8_voice_30 (by rw [c4]; decide) (by rw [c4]; decide) (by rw [c4]; decide) (by decide) ?_
        refine ev_aload_n dX8_voice_63 rfl ?_
        refine ev_iload_n dX8_voice_64 rfl ?_
        refine ev_iload_n dX8_voice_65 rfl ?_
        obtain ⟨z5, hz5, h⟩ := bv_bd h
        refine er_VI [.int _, .int _] (fun _ _ q => q) lk_X8_247 dX8_voice_66 rfl rfl rfl rfl rfl (wm_X8_costs _ _ _ _ hz5) ?_
        obtain rfl := Option.some.inj h
        exact ev_iret rfl dX8_voice_69 ⟨rfl, rfl, rfl⟩
      replace h := bv_ff c4 h
      by_cases c5 : l2 = (2 : Int32)
      · replace h := bv_tt c5 h
        refine ev_tableIn (40) 70 dX8_voice_30 (by rw [c5]; decide) (by rw [c5]; decide) (by rw [c5]; decide) (by decide) ?_
        refine ev_aload_n dX8_voice_70 rfl ?_
        refine ev_iload_n dX8_voice_71 rfl ?_
        refine ev_iload_n dX8_voice_72 rfl ?_
        obtain ⟨z6, hz6, h⟩ := bv_bd h
        refine er_VI [.int _, .int _] (fun _ _ q => q) lk_X8_235 dX8_voice_73 rfl rfl rfl rfl rfl (wm_X8_ages _ _ _ _ hz6) ?_
        obtain rfl := Option.some.inj h
        exact ev_iret rfl dX8_voice_76 ⟨rfl, rfl, rfl⟩
      replace h := bv_ff c5 h
      refine ev_tableOut 77 dX8_voice_30 (bv_sw 3 (by decide) (fun j hj => by match j, hj with | 0, _ => exact c3 | 1, _ => exact c4 | 2, _ => exact c5 | j + 3, hj => exact absurd hj (by omega))) (by decide) ?_
      refine ev_aload_n dX8_voice_77 rfl ?_
      refine ev_iload_n dX8_voice_78 rfl ?_
      refine ev_iload_n dX8_voice_79 rfl ?_
      obtain ⟨z7, hz7, h⟩ := bv_bd h
      refine er_VI [.int _, .int _] (fun _ _ q => q) lk_X8_253 dX8_voice_80 rfl rfl rfl rfl rfl (wm_X8_tells _ _ _ _ hz7) ?_
      obtain rfl := Option.some.inj h
      exact ev_iret rfl dX8_voice_83 ⟨rfl, rfl, rfl⟩
    · replace h := bv_tt c2 h
      refine ev_aload_n dX8_voice_17 rfl ?_
      refine ev_ldc (-1000000001 : Int32) dX8_voice_18 lc_X8_72 ?_
      obtain ⟨z8, hz8, h⟩ := bv_bd h
      refine er_VI [.int _] (fun _ _ q => q) lk_X8_73 dX8_voice_20 rfl rfl rfl rfl rfl (wm_X8_error _ _ _ hz8) ?_
      obtain rfl := Option.some.inj h
      exact ev_iret rfl dX8_voice_23 ⟨rfl, rfl, rfl⟩
theorem wm_X8_voice   (l1 : Int32) (l2 : Int32) (l3 : Int32) (mi : bv_Mem) (z : Int32 × bv_Mem) (h : f_X8_voice  l1 l2 l3 mi = some z) : bv_Met yX8_voice MX8_voice bv_X0 8 74 74 [.ref 61, .int l1, .int l2, .int l3] (bv_mr mi) mi (bv_QI z) :=
  bv_Met.of (pn_X 8 (by decide)) rfl (fun q => absurd q Bool.false_ne_true) (Nat.le_of_ble_eq_true rfl) (we_X8_voice   l1 l2 l3 mi z h)
set_option maxRecDepth 100000 in
set_option maxHeartbeats 4000000 in
theorem we_X8_trace   (l1 : Int32) (mi : bv_Mem) (z : Int32 × bv_Mem) (h : f_X8_trace  l1 mi = some z) : bv_Ev MX8_trace bv_X0 1 74 74 (bv_QI z) 0 [some (.ref 61), some (.int l1)] [] 74 (bv_mr mi) mi := by
  unfold f_X8_trace at h
  refine ev_iload_n dX8_trace_0 rfl ?_
  refine ev_iconst (0 : Int32) dX8_trace_1 (by decide) ?_
  refine ev_aload_n dX8_trace_2 rfl ?_
  refine ev_getI lf_X8_220 dX8_trace_3 rfl rfl ?_
  refine ev_iconst (1 : Int32) dX8_trace_6 (by decide) ?_
  refine ev_isub dX8_trace_7 ?_
  obtain ⟨z1, hz1, h⟩ := bv_bd h
  refine er_SP [.int _, .int _, .int _] (fun _ _ q => q) lk_X8_47 dX8_trace_8 rfl rfl rfl rfl (wm_X8_in _ _ _ _ _ hz1) ?_
  refine ev_if_eq 23 dX8_trace_11 (by decide) (fun c1 => ?_) (fun c1 => ?_)
  · replace h := bv_tt c1 h
    refine ev_aload_n dX8_trace_23 rfl ?_
    refine ev_ldc (-1000000002 : Int32) dX8_trace_24 lc_X8_213 ?_
    obtain ⟨z2, hz2, h⟩ := bv_bd h
    refine er_VI [.int _] (fun _ _ q => q) lk_X8_73 dX8_trace_26 rfl rfl rfl rfl rfl (wm_X8_error _ _ _ hz2) ?_
    obtain rfl := Option.some.inj h
    exact ev_iret rfl dX8_trace_29 ⟨rfl, rfl, rfl⟩
  · replace h := bv_ff c1 h
    refine ev_aload_n dX8_trace_14 rfl ?_
    refine ev_getR 70 lf_X8_34 dX8_trace_15 rfl rfl rfl ?_
    refine ev_iload_n dX8_trace_18 rfl ?_
    obtain ⟨g1, h⟩ := bv_gd h
    refine ev_iald (N := 40) dX8_trace_19 rfl g1 ?_
    refine ev_goto 29 dX8_trace_20 (by decide) ?_
    obtain rfl := Option.some.inj h
    exact ev_iret rfl dX8_trace_29 ⟨rfl, rfl, rfl⟩
theorem wm_X8_trace   (l1 : Int32) (mi : bv_Mem) (z : Int32 × bv_Mem) (h : f_X8_trace  l1 mi = some z) : bv_Met yX8_trace MX8_trace bv_X0 1 74 74 [.ref 61, .int l1] (bv_mr mi) mi (bv_QI z) :=
  bv_Met.of (pn_X 8 (by decide)) rfl (fun q => absurd q Bool.false_ne_true) (Nat.le_of_ble_eq_true rfl) (we_X8_trace   l1 mi z h)
set_option maxRecDepth 100000 in
set_option maxHeartbeats 4000000 in
theorem we_X8_isSheet   (l0 : Int32) (mi : bv_Mem) (z : Int32) (h : f_X8_isSheet  l0 mi = some z) : bv_Ev MX8_isSheet bv_X0 1 74 74 (bv_QP z mi) 0 [some (.int l0)] [] 74 (bv_mr mi) mi := by
  unfold f_X8_isSheet at h
  refine ev_iload_n dX8_isSheet_0 rfl ?_
  refine ev_iconst (0 : Int32) dX8_isSheet_1 (by decide) ?_
  refine ev_iconst (3 : Int32) dX8_isSheet_2 (by decide) ?_
  obtain ⟨z1, hz1, h⟩ := bv_bd h
  refine er_SP [.int _, .int _, .int _] (fun _ _ q => q) lk_X8_47 dX8_isSheet_3 rfl rfl rfl rfl (wm_X8_in _ _ _ _ _ hz1) ?_
  obtain ⟨g1, h⟩ := bv_gd h
  obtain rfl := Option.some.inj h
  exact ev_zret rfl g1 dX8_isSheet_6 ⟨rfl, rfl, rfl⟩
theorem wm_X8_isSheet   (l0 : Int32) (mi : bv_Mem) (z : Int32) (h : f_X8_isSheet  l0 mi = some z) : bv_Met yX8_isSheet MX8_isSheet bv_X0 1 74 74 [.int l0] (bv_mr mi) mi (bv_QP z mi) :=
  bv_Met.of (pn_X 8 (by decide)) rfl (fun q => absurd q Bool.false_ne_true) (Nat.le_of_ble_eq_true rfl) (we_X8_isSheet   l0 mi z h)
set_option maxRecDepth 100000 in
set_option maxHeartbeats 4000000 in
theorem wb_X8_sheet_93  : ∀ (fu : Nat) (l1 : Int32) (l4 : Int32) (mi : bv_Mem) (z : Int32 × bv_Mem), b_X8_sheet_93 fu l1 l4 mi = some z → bv_Ev MX8_sheet bv_X0 2 74 74 (bv_QI z) 93 [some (.ref 61), some (.int l1), none, none, some (.int l4)] [] 74 (bv_mr mi) mi := by
  intro fu
  induction fu with
  | zero =>
    intro l1 l4 mi z h
    rw [b_X8_sheet_93] at h
    cases h
  | succ fu ih =>
    intro l1 l4 mi z h
    rw [b_X8_sheet_93] at h
    refine ev_iload dX8_sheet_93 rfl ?_
    refine ev_bipush (40 : Int32) dX8_sheet_95 (by decide) ?_
    refine ev_icmp_ge 119 dX8_sheet_97 (by decide) (fun c1 => ?_) (fun c1 => ?_)
    · replace h := bv_tt c1 h
      refine ev_iconst (1 : Int32) dX8_sheet_119 (by decide) ?_
      obtain rfl := Option.some.inj h
      exact ev_iret rfl dX8_sheet_120 ⟨rfl, rfl, rfl⟩
    · replace h := bv_ff c1 h
      refine ev_aload_n dX8_sheet_100 rfl ?_
      refine ev_getR 73 lf_X8_43 dX8_sheet_101 rfl rfl rfl ?_
      refine ev_bipush (40 : Int32) dX8_sheet_104 (by decide) ?_
      refine ev_iload_n dX8_sheet_106 rfl ?_
      refine ev_imul dX8_sheet_107 ?_
      refine ev_iload dX8_sheet_108 rfl ?_
      refine ev_iadd dX8_sheet_110 ?_
      refine ev_iconst (0 : Int32) dX8_sheet_111 (by decide) ?_
      obtain ⟨g1, h⟩ := bv_gd h
      refine er_iast (N := 160) dX8_sheet_112 rfl g1 ?_
      refine ev_iinc (l4 + 1) dX8_sheet_113 rfl rfl rfl rfl ?_
      refine ev_goto 93 dX8_sheet_116 (by decide) ?_
      exact ev_weak (by exact And.intro rfl (And.intro rfl (And.intro rfl (trivial)))) (ih _ _ _ _ h)
set_option maxRecDepth 100000 in
set_option maxHeartbeats 4000000 in
theorem wb_X8_sheet_68  (l1 : Int32) (l2 : Int32) (l3 : Int32) (mi : bv_Mem) (z : Int32 × bv_Mem) (h : b_X8_sheet_68 l1 l2 l3 mi = some z) : bv_Ev MX8_sheet bv_X0 2 74 74 (bv_QI z) 68 [some (.ref 61), some (.int l1), some (.int l2), some (.int l3), none] [] 74 (bv_mr mi) mi := by
  unfold b_X8_sheet_68 at h
  refine ev_aload_n dX8_sheet_68 rfl ?_
  refine ev_getR 71 lf_X8_37 dX8_sheet_69 rfl rfl rfl ?_
  refine ev_iload_n dX8_sheet_72 rfl ?_
  refine ev_iload_n dX8_sheet_73 rfl ?_
  obtain ⟨g1, h⟩ := bv_gd h
  refine er_iast (N := 4) dX8_sheet_74 rfl g1 ?_
  refine ev_aload_n dX8_sheet_75 rfl ?_
  refine ev_getR 72 lf_X8_40 dX8_sheet_76 rfl rfl rfl ?_
  refine ev_iload_n dX8_sheet_79 rfl ?_
  refine ev_iload_n dX8_sheet_80 rfl ?_
  refine ev_if_ne 88 dX8_sheet_81 (by decide) (fun c1 => ?_) (fun c1 => ?_)
  · replace h := bv_ff c1 h
    refine ev_iload_n dX8_sheet_88 rfl ?_
    refine er_iast (N := 4) dX8_sheet_89 rfl g1 ?_
    refine ev_iconst (0 : Int32) dX8_sheet_90 (by decide) ?_
    refine ev_istore dX8_sheet_91 rfl rfl ?_
    exact ev_weak (by exact And.intro rfl (And.intro rfl (And.intro rfl (trivial)))) (wb_X8_sheet_93  400 _ _ _ _ h)
  · replace h := bv_tt c1 h
    refine ev_iconst (0 : Int32) dX8_sheet_84 (by decide) ?_
    refine ev_goto 89 dX8_sheet_85 (by decide) ?_
    refine er_iast (N := 4) dX8_sheet_89 rfl g1 ?_
    refine ev_iconst (0 : Int32) dX8_sheet_90 (by decide) ?_
    refine ev_istore dX8_sheet_91 rfl rfl ?_
    exact ev_weak (by exact And.intro rfl (And.intro rfl (And.intro rfl (trivial)))) (wb_X8_sheet_93  400 _ _ _ _ h)
set_option maxRecDepth 100000 in
set_option maxHeartbeats 4000000 in
theorem wb_X8_sheet_51  (l1 : Int32) (l2 : Int32) (l3 : Int32) (mi : bv_Mem) (z : Int32 × bv_Mem) (h : b_X8_sheet_51 l1 l2 l3 mi = some z) : bv_Ev MX8_sheet bv_X0 2 74 74 (bv_QI z) 51 [some (.ref 61), some (.int l1), some (.int l2), some (.int l3), none] [] 74 (bv_mr mi) mi := by
  unfold b_X8_sheet_51 at h
  refine ev_iload_n dX8_sheet_51 rfl ?_
  refine ev_if_le 68 dX8_sheet_52 (by decide) (fun c1 => ?_) (fun c1 => ?_)
  · replace h := bv_tt c1 h
    exact ev_weak (by exact And.intro rfl (And.intro rfl (And.intro rfl (And.intro rfl (trivial))))) (wb_X8_sheet_68  _ _ _ _ _ h)
  · replace h := bv_ff c1 h
    refine ev_iload_n dX8_sheet_55 rfl ?_
    refine ev_bipush (40 : Int32) dX8_sheet_56 (by decide) ?_
    refine ev_icmp_le 68 dX8_sheet_58 (by decide) (fun c2 => ?_) (fun c2 => ?_)
    · replace h := bv_tt c2 h
      exact ev_weak (by exact And.intro rfl (And.intro rfl (And.intro rfl (And.intro rfl (trivial))))) (wb_X8_sheet_68  _ _ _ _ _ h)
    · replace h := bv_ff c2 h
      refine ev_aload_n dX8_sheet_61 rfl ?_
      refine ev_ldc (-1000000001 : Int32) dX8_sheet_62 lc_X8_72 ?_
      obtain ⟨z1, hz1, h⟩ := bv_bd h
      refine er_VI [.int _] (fun _ _ q => q) lk_X8_73 dX8_sheet_64 rfl rfl rfl rfl rfl (wm_X8_error _ _ _ hz1) ?_
      obtain rfl := Option.some.inj h
      exact ev_iret rfl dX8_sheet_67 ⟨rfl, rfl, rfl⟩
set_option maxRecDepth 100000 in
set_option maxHeartbeats 4000000 in
theorem wb_X8_sheet_36  (l1 : Int32) (l2 : Int32) (l3 : Int32) (mi : bv_Mem) (z : Int32 × bv_Mem) (h : b_X8_sheet_36 l1 l2 l3 mi = some z) : bv_Ev MX8_sheet bv_X0 2 74 74 (bv_QI z) 36 [some (.ref 61), some (.int l1), some (.int l2), some (.int l3), none] [] 74 (bv_mr mi) mi := by
  unfold b_X8_sheet_36 at h
  refine ev_iload_n dX8_sheet_36 rfl ?_
  refine ev_if_le 51 dX8_sheet_37 (by decide) (fun c1 => ?_) (fun c1 => ?_)
  · replace h := bv_tt c1 h
    exact ev_weak (by exact And.intro rfl (And.intro rfl (And.intro rfl (And.intro rfl (trivial))))) (wb_X8_sheet_51  _ _ _ _ _ h)
  · replace h := bv_ff c1 h
    refine ev_iload_n dX8_sheet_40 rfl ?_
    refine ev_if_ge 51 dX8_sheet_41 (by decide) (fun c2 => ?_) (fun c2 => ?_)
    · replace h := bv_tt c2 h
      exact ev_weak (by exact And.intro rfl (And.intro rfl (And.intro rfl (And.intro rfl (trivial))))) (wb_X8_sheet_51  _ _ _ _ _ h)
    · replace h := bv_ff c2 h
      refine ev_aload_n dX8_sheet_44 rfl ?_
      refine ev_ldc (-1000000003 : Int32) dX8_sheet_45 lc_X8_110 ?_
      obtain ⟨z1, hz1, h⟩ := bv_bd h
      refine er_VI [.int _] (fun _ _ q => q) lk_X8_73 dX8_sheet_47 rfl rfl rfl rfl rfl (wm_X8_error _ _ _ hz1) ?_
      obtain rfl := Option.some.inj h
      exact ev_iret rfl dX8_sheet_50 ⟨rfl, rfl, rfl⟩
set_option maxRecDepth 100000 in
set_option maxHeartbeats 4000000 in
theorem we_X8_sheet   (l1 : Int32) (l2 : Int32) (l3 : Int32) (mi : bv_Mem) (z : Int32 × bv_Mem) (h : f_X8_sheet  l1 l2 l3 mi = some z) : bv_Ev MX8_sheet bv_X0 2 74 74 (bv_QI z) 0 [some (.ref 61), some (.int l1), some (.int l2), some (.int l3), none] [] 74 (bv_mr mi) mi := by
  unfold f_X8_sheet at h
  refine ev_iload_n dX8_sheet_0 rfl ?_
  obtain ⟨z1, hz1, h⟩ := bv_bd h
  refine er_SP [.int _] (fun _ _ q => q) lk_X8_256 dX8_sheet_1 rfl rfl rfl rfl (wm_X8_isSheet _ _ _ hz1) ?_
  refine ev_if_eq 29 dX8_sheet_4 (by decide) (fun c1 => ?_) (fun c1 => ?_)
  · replace h := bv_tt c1 h
    refine ev_aload_n dX8_sheet_29 rfl ?_
    refine ev_ldc (-1000000001 : Int32) dX8_sheet_30 lc_X8_72 ?_
    obtain ⟨z2, hz2, h⟩ := bv_bd h
    refine er_VI [.int _] (fun _ _ q => q) lk_X8_73 dX8_sheet_32 rfl rfl rfl rfl rfl (wm_X8_error _ _ _ hz2) ?_
    obtain rfl := Option.some.inj h
    exact ev_iret rfl dX8_sheet_35 ⟨rfl, rfl, rfl⟩
  · replace h := bv_ff c1 h
    refine ev_iload_n dX8_sheet_7 rfl ?_
    refine ev_if_eq 36 dX8_sheet_8 (by decide) (fun c2 => ?_) (fun c2 => ?_)
    · replace h := bv_tt c2 h
      exact ev_weak (by exact And.intro rfl (And.intro rfl (And.intro rfl (And.intro rfl (trivial))))) (wb_X8_sheet_36  _ _ _ _ _ h)
    · replace h := bv_ff c2 h
      refine ev_iload_n dX8_sheet_11 rfl ?_
      refine ev_bipush (8 : Int32) dX8_sheet_12 (by decide) ?_
      refine ev_icmp_eq 36 dX8_sheet_14 (by decide) (fun c3 => ?_) (fun c3 => ?_)
      · replace h := bv_tt c3 h
        exact ev_weak (by exact And.intro rfl (And.intro rfl (And.intro rfl (And.intro rfl (trivial))))) (wb_X8_sheet_36  _ _ _ _ _ h)
      · replace h := bv_ff c3 h
        refine ev_iload_n dX8_sheet_17 rfl ?_
        refine ev_bipush (16 : Int32) dX8_sheet_18 (by decide) ?_
        refine ev_icmp_eq 36 dX8_sheet_20 (by decide) (fun c4 => ?_) (fun c4 => ?_)
        · replace h := bv_tt c4 h
          exact ev_weak (by exact And.intro rfl (And.intro rfl (And.intro rfl (And.intro rfl (trivial))))) (wb_X8_sheet_36  _ _ _ _ _ h)
        · replace h := bv_ff c4 h
          refine ev_iload_n dX8_sheet_23 rfl ?_
          refine ev_bipush (32 : Int32) dX8_sheet_24 (by decide) ?_
          refine ev_icmp_eq 36 dX8_sheet_26 (by decide) (fun c5 => ?_) (fun c5 => ?_)
          · replace h := bv_tt c5 h
            exact ev_weak (by exact And.intro rfl (And.intro rfl (And.intro rfl (And.intro rfl (trivial))))) (wb_X8_sheet_36  _ _ _ _ _ h)
          · replace h := bv_ff c5 h
            refine ev_aload_n dX8_sheet_29 rfl ?_
            refine ev_ldc (-1000000001 : Int32) dX8_sheet_30 lc_X8_72 ?_
            obtain ⟨z3, hz3, h⟩ := bv_bd h
            refine er_VI [.int _] (fun _ _ q => q) lk_X8_73 dX8_sheet_32 rfl rfl rfl rfl rfl (wm_X8_error _ _ _ hz3) ?_
            obtain rfl := Option.some.inj h
            exact ev_iret rfl dX8_sheet_35 ⟨rfl, rfl, rfl⟩
theorem wm_X8_sheet   (l1 : Int32) (l2 : Int32) (l3 : Int32) (mi : bv_Mem) (z : Int32 × bv_Mem) (h : f_X8_sheet  l1 l2 l3 mi = some z) : bv_Met yX8_sheet MX8_sheet bv_X0 2 74 74 [.ref 61, .int l1, .int l2, .int l3] (bv_mr mi) mi (bv_QI z) :=
  bv_Met.of (pn_X 8 (by decide)) rfl (fun q => absurd q Bool.false_ne_true) (Nat.le_of_ble_eq_true rfl) (we_X8_sheet   l1 l2 l3 mi z h)
