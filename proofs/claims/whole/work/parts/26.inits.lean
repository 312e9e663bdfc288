section RULES5
variable {M : bv_M} {X : bv_Xt} {d n0 n1 : Nat} {Q : Option Value → bv_Rfs → bv_Mem → Prop} {pc : Nat} {L : List (Option Value)} {st : List Value} {n : Nat} {mr : bv_Rfs} {mi : bv_Mem}
theorem ev_topn {x : Int32} (y : Int32) (h : x = y) (k : bv_Ev M X d n0 n1 Q pc L (.int y :: st) n mr mi) : bv_Ev M X d n0 n1 Q pc L (.int x :: st) n mr mi := by rw [h]; exact k
theorem ev_iastk {a N : Nat} {i v : Int32} (k : Nat) (hd : decode M.2.1 pc = .ok (.iastore, 1)) (hg : bv_isA n a 0 N = true) (hi : bv_in i N = true) (hk : i.toNatClampNeg = k) (kk : bv_Ev M X d n0 n1 Q (pc + 1) L st n mr (bv_up mi a k v)) : bv_Ev M X d n0 n1 Q pc L (.int v :: .int i :: .ref a :: st) n mr mi :=
  ev_iast hd hg hi (by rw [hk]; exact kk)
theorem ev_aastk {a N q ci : Nat} {i : Int32} (k : Nat) (hd : decode M.2.1 pc = .ok (.aastore, 1)) (h1 : a < n) (h2 : bv_sh a = .inl (.object (bv_R ci), N)) (hc : ci < 9) (hq : bv_isC n q ci = true) (hi : bv_in i N = true) (hk : i.toNatClampNeg = k) (kk : bv_Ev M X d n0 n1 Q (pc + 1) L st n (bv_upr mr a k (some q)) mi) : bv_Ev M X d n0 n1 Q pc L (.ref q :: .int i :: .ref a :: st) n mr mi :=
  ev_aast hd h1 h2 hc hq hi (by rw [hk]; exact kk)
end RULES5
theorem lk_X2_11 : bv_LIN RX2 11 yX4_init MX4_init 0 := ⟨⟨List.mem_of_getElem? (i := 219) (by decide +kernel), List.mem_of_getElem? (i := 120) (by decide +kernel), List.mem_of_getElem? (i := 75) (by decide +kernel), List.mem_of_getElem? (i := 121) (by decide +kernel)⟩, ⟨⟨by decide +kernel, by decide +kernel, by decide +kernel⟩, rfl, rfl⟩, by decide⟩
theorem lk_X5_11 : bv_LI RX5 11 yX1_init MX1_init 0 := ⟨⟨List.mem_of_getElem? (i := 100) (by decide +kernel), List.mem_of_getElem? (i := 101) (by decide +kernel), List.mem_of_getElem? (i := 74) (by decide +kernel), List.mem_of_getElem? (i := 102) (by decide +kernel)⟩, ⟨⟨by decide +kernel, by decide +kernel, by decide +kernel⟩, rfl, rfl⟩, by decide⟩
theorem lk_X5_43 : bv_LIN RX5 43 yX4_init MX4_init 0 := ⟨⟨List.mem_of_getElem? (i := 119) (by decide +kernel), List.mem_of_getElem? (i := 120) (by decide +kernel), List.mem_of_getElem? (i := 75) (by decide +kernel), List.mem_of_getElem? (i := 121) (by decide +kernel)⟩, ⟨⟨by decide +kernel, by decide +kernel, by decide +kernel⟩, rfl, rfl⟩, by decide⟩
theorem lk_X5_60 : bv_LIN RX5 60 yX0_init MX0_init 0 := ⟨⟨List.mem_of_getElem? (i := 135) (by decide +kernel), List.mem_of_getElem? (i := 136) (by decide +kernel), List.mem_of_getElem? (i := 76) (by decide +kernel), List.mem_of_getElem? (i := 137) (by decide +kernel)⟩, ⟨⟨by decide +kernel, by decide +kernel, by decide +kernel⟩, rfl, rfl⟩, by decide⟩
theorem lk_X7_25 : bv_LIN RX7 25 yX2_init MX2_init 0 := ⟨⟨List.mem_of_getElem? (i := 214) (by decide +kernel), List.mem_of_getElem? (i := 215) (by decide +kernel), List.mem_of_getElem? (i := 77) (by decide +kernel), List.mem_of_getElem? (i := 216) (by decide +kernel)⟩, ⟨⟨by decide +kernel, by decide +kernel, by decide +kernel⟩, rfl, rfl⟩, by decide⟩
theorem lk_X7_32 : bv_LIN RX7 32 yX6_init MX6_init 0 := ⟨⟨List.mem_of_getElem? (i := 241) (by decide +kernel), List.mem_of_getElem? (i := 242) (by decide +kernel), List.mem_of_getElem? (i := 78) (by decide +kernel), List.mem_of_getElem? (i := 243) (by decide +kernel)⟩, ⟨⟨by decide +kernel, by decide +kernel, by decide +kernel⟩, rfl, rfl⟩, by decide⟩
theorem lk_X7_53 : bv_LIN RX7 53 yX3_init MX3_init 0 := ⟨⟨List.mem_of_getElem? (i := 266) (by decide +kernel), List.mem_of_getElem? (i := 267) (by decide +kernel), List.mem_of_getElem? (i := 79) (by decide +kernel), List.mem_of_getElem? (i := 268) (by decide +kernel)⟩, ⟨⟨by decide +kernel, by decide +kernel, by decide +kernel⟩, rfl, rfl⟩, by decide⟩
theorem lk_X7_9 : bv_LI RX7 9 yX5_init MX5_init 0 := ⟨⟨List.mem_of_getElem? (i := 94) (by decide +kernel), List.mem_of_getElem? (i := 95) (by decide +kernel), List.mem_of_getElem? (i := 73) (by decide +kernel), List.mem_of_getElem? (i := 96) (by decide +kernel)⟩, ⟨⟨by decide +kernel, by decide +kernel, by decide +kernel⟩, rfl, rfl⟩, by decide⟩
def cr_0 : bv_Rfs := fun _ _ => none
def cm_0 : bv_Mem := fun _ _ => 0
def cr_1 : bv_Rfs := bv_upr (bv_upr (cr_0) 2 0 (some 3)) 2 1 (some 4)
def cm_2 : bv_Mem := bv_up (bv_up (bv_up (bv_up (bv_up (bv_up (bv_up (bv_up (bv_up (bv_up (bv_up (bv_up (bv_up (bv_up (bv_up (bv_up (bv_up (bv_up (bv_up (bv_up (cm_0) 3 0 (5)) 3 1 (5)) 3 2 (5)) 3 3 (5)) 3 4 (5)) 3 5 (5)) 3 6 (5)) 3 7 (5)) 3 8 (5)) 3 9 (5)) 3 10 (5)) 3 11 (5)) 3 12 (5)) 3 13 (5)) 3 14 (5)) 3 15 (5)) 3 16 (5)) 3 17 (5)) 3 18 (5)) 3 19 (5)
def cr_3 : bv_Rfs := bv_upr (bv_upr (bv_upr (cr_1) 1 0 (some 2)) 1 1 (some 5)) 1 3 (some 6)
def cm_4 : bv_Mem := bv_up (bv_up (bv_up (bv_up (cm_2) 1 2 (0)) 1 4 (0)) 1 5 (0)) 1 6 (1)
def cr_5 : bv_Rfs := bv_upr (cr_3) 7 0 (some 8)
def cm_6 : bv_Mem := bv_up (cm_4) 7 1 (0)
def cr_7 : bv_Rfs := bv_upr (cr_5) 1 7 (some 7)
def cr_8 : bv_Rfs := bv_upr (cr_7) 9 0 (some 10)
def cm_9 : bv_Mem := bv_up (cm_6) 9 1 (0)
def cr_10 : bv_Rfs := bv_upr (cr_8) 1 8 (some 9)
def cr_11 : bv_Rfs := bv_upr (cr_10) 11 0 (some 12)
def cm_12 : bv_Mem := bv_up (cm_9) 11 1 (0)
def cr_13 : bv_Rfs := bv_upr (bv_upr (cr_11) 1 9 (some 11)) 1 10 (some 13)
def cm_14 : bv_Mem := bv_up (cm_12) 1 11 (0)
def cr_15 : bv_Rfs := bv_upr (cr_13) 6 0 (some 14)
def cr_16 : bv_Rfs := bv_upr (cr_15) 6 1 (some 15)
def cr_17 : bv_Rfs := bv_upr (cr_16) 6 2 (some 16)
def cr_18 : bv_Rfs := bv_upr (cr_17) 6 3 (some 17)
def cr_19 : bv_Rfs := bv_upr (cr_18) 6 4 (some 18)
def cr_20 : bv_Rfs := bv_upr (cr_19) 6 5 (some 19)
def cr_21 : bv_Rfs := bv_upr (cr_20) 6 6 (some 20)
def cr_22 : bv_Rfs := bv_upr (cr_21) 6 7 (some 21)
def cr_23 : bv_Rfs := bv_upr (cr_22) 0 0 (some 1)
def cr_24 : bv_Rfs := bv_upr (bv_upr (cr_23) 23 0 (some 24)) 23 1 (some 25)
def cm_25 : bv_Mem := bv_up (bv_up (bv_up (bv_up (bv_up (bv_up (bv_up (bv_up (bv_up (bv_up (bv_up (bv_up (bv_up (bv_up (bv_up (bv_up (bv_up (bv_up (bv_up (bv_up (cm_14) 24 0 (5)) 24 1 (5)) 24 2 (5)) 24 3 (5)) 24 4 (5)) 24 5 (5)) 24 6 (5)) 24 7 (5)) 24 8 (5)) 24 9 (5)) 24 10 (5)) 24 11 (5)) 24 12 (5)) 24 13 (5)) 24 14 (5)) 24 15 (5)) 24 16 (5)) 24 17 (5)) 24 18 (5)) 24 19 (5)
def cr_26 : bv_Rfs := bv_upr (bv_upr (bv_upr (cr_24) 22 0 (some 23)) 22 1 (some 26)) 22 3 (some 27)
def cm_27 : bv_Mem := bv_up (bv_up (bv_up (bv_up (cm_25) 22 2 (0)) 22 4 (0)) 22 5 (0)) 22 6 (1)
def cr_28 : bv_Rfs := bv_upr (cr_26) 28 0 (some 29)
def cm_29 : bv_Mem := bv_up (cm_27) 28 1 (0)
def cr_30 : bv_Rfs := bv_upr (cr_28) 22 7 (some 28)
def cr_31 : bv_Rfs := bv_upr (cr_30) 30 0 (some 31)
def cm_32 : bv_Mem := bv_up (cm_29) 30 1 (0)
def cr_33 : bv_Rfs := bv_upr (cr_31) 22 8 (some 30)
def cr_34 : bv_Rfs := bv_upr (cr_33) 32 0 (some 33)
def cm_35 : bv_Mem := bv_up (cm_32) 32 1 (0)
def cr_36 : bv_Rfs := bv_upr (bv_upr (cr_34) 22 9 (some 32)) 22 10 (some 34)
def cm_37 : bv_Mem := bv_up (cm_35) 22 11 (0)
def cr_38 : bv_Rfs := bv_upr (cr_36) 27 0 (some 35)
def cr_39 : bv_Rfs := bv_upr (cr_38) 27 1 (some 36)
def cr_40 : bv_Rfs := bv_upr (cr_39) 27 2 (some 37)
def cr_41 : bv_Rfs := bv_upr (cr_40) 27 3 (some 38)
def cr_42 : bv_Rfs := bv_upr (cr_41) 27 4 (some 39)
def cr_43 : bv_Rfs := bv_upr (cr_42) 27 5 (some 40)
def cr_44 : bv_Rfs := bv_upr (cr_43) 27 6 (some 41)
def cr_45 : bv_Rfs := bv_upr (cr_44) 27 7 (some 42)
def cr_46 : bv_Rfs := bv_upr (cr_45) 0 1 (some 22)
def cm_47 : bv_Mem := bv_up (cm_37) 0 2 (0)
def cr_48 : bv_Rfs := bv_upr (cr_46) 44 0 (some 45)
def cm_49 : bv_Mem := bv_up (cm_47) 44 1 (0)
def cr_50 : bv_Rfs := bv_upr (bv_upr (cr_48) 43 0 (some 44)) 43 2 (some 46)
def cm_51 : bv_Mem := bv_up (bv_up (bv_up (bv_up (cm_49) 43 1 (0)) 43 3 (0)) 43 4 (-1)) 43 5 (-1)
def cr_52 : bv_Rfs := bv_upr (cr_50) 0 3 (some 43)
def cr_53 : bv_Rfs := bv_upr (cr_52) 47 0 (some 48)
def cm_54 : bv_Mem := bv_up (bv_up (bv_up (bv_up (cm_51) 47 1 (0)) 47 2 (0)) 47 3 (0)) 47 4 (0)
def cr_55 : bv_Rfs := bv_upr (bv_upr (bv_upr (bv_upr (bv_upr (cr_53) 0 4 (some 47)) 0 5 (some 49)) 0 6 (some 50)) 0 7 (some 51)) 0 8 (some 52)
def cr_56 : bv_Rfs := bv_upr (cr_55) 53 2 (some 54)
def cm_57 : bv_Mem := bv_up (bv_up (cm_54) 53 0 (0)) 53 1 (0)
def cr_58 : bv_Rfs := bv_upr (cr_56) 49 0 (some 53)
def cr_59 : bv_Rfs := bv_upr (cr_58) 55 2 (some 56)
def cm_60 : bv_Mem := bv_up (bv_up (cm_57) 55 0 (0)) 55 1 (0)
def cr_61 : bv_Rfs := bv_upr (cr_59) 49 1 (some 55)
def cr_62 : bv_Rfs := bv_upr (cr_61) 57 2 (some 58)
def cm_63 : bv_Mem := bv_up (bv_up (cm_60) 57 0 (0)) 57 1 (0)
def cr_64 : bv_Rfs := bv_upr (cr_62) 49 2 (some 57)
def cr_65 : bv_Rfs := bv_upr (cr_64) 59 2 (some 60)
def cm_66 : bv_Mem := bv_up (bv_up (cm_63) 59 0 (0)) 59 1 (0)
def cr_67 : bv_Rfs := bv_upr (cr_65) 49 3 (some 59)
def cr_68 : bv_Rfs := bv_upr (bv_upr (bv_upr (bv_upr (bv_upr (bv_upr (bv_upr (bv_upr (bv_upr (bv_upr (bv_upr (bv_upr (cr_67) 61 0 (some 62)) 61 1 (some 63)) 61 2 (some 64)) 61 4 (some 65)) 61 5 (some 66)) 61 6 (some 67)) 61 7 (some 68)) 61 8 (some 69)) 61 14 (some 70)) 61 16 (some 71)) 61 17 (some 72)) 61 18 (some 73)
def cm_69 : bv_Mem := bv_up (bv_up (bv_up (bv_up (bv_up (bv_up (bv_up (bv_up (bv_up (bv_up (bv_up (bv_up (bv_up (bv_up (bv_up (bv_up (bv_up (bv_up (bv_up (bv_up (bv_up (cm_66) 62 1 (1)) 62 11 (5)) 62 12 (5)) 62 13 (5)) 62 14 (5)) 62 15 (5)) 62 16 (5)) 62 17 (5)) 62 18 (5)) 62 19 (5)) 62 20 (5)) 62 21 (5)) 62 22 (5)) 62 23 (5)) 62 24 (5)) 62 25 (5)) 62 26 (5)) 62 27 (5)) 62 28 (5)) 62 29 (5)) 62 30 (5)
set_option maxRecDepth 100000 in
set_option maxHeartbeats 4000000 in
theorem wi_X1_init_2 : bv_Met yX1_init MX1_init bv_X0 1 3 5 [.ref 2] cr_0 cm_0 (fun r mr' mi' => r = none ∧ mr' = cr_1 ∧ mi' = cm_2) := by
  refine bv_Met.of (pn_X 1 (by decide)) rfl (fun _ => rfl) (Nat.le_of_ble_eq_true rfl) ?_
  refine ev_aload_n dX1_init_0 rfl ?_
  refine ev_objInit dX1_init_1 (List.mem_of_getElem? (i := 103) (by decide +kernel)) (List.mem_of_getElem? (i := 90) (by decide +kernel)) (List.mem_of_getElem? (i := 91) (by decide +kernel)) (by decide) (by decide) ?_
  refine ev_aload_n dX1_init_4 rfl ?_
  refine ev_bipush (20 : Int32) dX1_init_5 (by decide) ?_
  refine ev_newa (ty := .int) (N := 20) dX1_init_7 rfl (by decide) rfl (List.mem_of_getElem? (i := 114) (by decide +kernel)) (by decide) (by decide) (by decide) (by decide) (by decide) (by decide) (fun _ => rfl) rfl rfl ?_
  refine ev_putRF lf_X1_9 dX1_init_9 rfl rfl rfl rfl rfl (by decide) ?_
  refine ev_aload_n dX1_init_12 rfl ?_
  refine ev_bipush (20 : Int32) dX1_init_13 (by decide) ?_
  refine ev_newa (ty := .int) (N := 20) dX1_init_15 rfl (by decide) rfl (List.mem_of_getElem? (i := 114) (by decide +kernel)) (by decide) (by decide) (by decide) (by decide) (by decide) (by decide) (fun _ => rfl) rfl rfl ?_
  refine ev_putRF lf_X1_15 dX1_init_17 rfl rfl rfl rfl rfl (by decide) ?_
  refine ev_iconst (0 : Int32) dX1_init_20 (by decide) ?_
  refine ev_istore_n dX1_init_21 rfl rfl ?_
  refine ev_iload_n dX1_init_22 rfl ?_
  refine ev_bipush (20 : Int32) dX1_init_23 (by decide) ?_
  refine ev_icmp_ge 41 dX1_init_25 (by decide) (fun c => absurd c (by decide)) (fun _ => ?_)
  refine ev_aload_n dX1_init_28 rfl ?_
  refine ev_getR 3 lf_X1_9 dX1_init_29 rfl rfl rfl ?_
  refine ev_iload_n dX1_init_32 rfl ?_
  refine ev_iconst (5 : Int32) dX1_init_33 (by decide) ?_
  refine ev_iastk (N := 20) 0 dX1_init_34 rfl rfl (by decide) ?_
  refine ev_iinc (1 : Int32) dX1_init_35 rfl (by decide) rfl rfl ?_
  refine ev_goto 22 dX1_init_38 (by decide) ?_
  refine ev_iload_n dX1_init_22 rfl ?_
  refine ev_bipush (20 : Int32) dX1_init_23 (by decide) ?_
  refine ev_icmp_ge 41 dX1_init_25 (by decide) (fun c => absurd c (by decide)) (fun _ => ?_)
  refine ev_aload_n dX1_init_28 rfl ?_
  refine ev_getR 3 lf_X1_9 dX1_init_29 rfl rfl rfl ?_
  refine ev_iload_n dX1_init_32 rfl ?_
  refine ev_iconst (5 : Int32) dX1_init_33 (by decide) ?_
  refine ev_iastk (N := 20) 1 dX1_init_34 rfl rfl (by decide) ?_
  refine ev_iinc (2 : Int32) dX1_init_35 rfl (by decide) rfl rfl ?_
  refine ev_goto 22 dX1_init_38 (by decide) ?_
  refine ev_iload_n dX1_init_22 rfl ?_
  refine ev_bipush (20 : Int32) dX1_init_23 (by decide) ?_
  refine ev_icmp_ge 41 dX1_init_25 (by decide) (fun c => absurd c (by decide)) (fun _ => ?_)
  refine ev_aload_n dX1_init_28 rfl ?_
  refine ev_getR 3 lf_X1_9 dX1_init_29 rfl rfl rfl ?_
  refine ev_iload_n dX1_init_32 rfl ?_
  refine ev_iconst (5 : Int32) dX1_init_33 (by decide) ?_
  refine ev_iastk (N := 20) 2 dX1_init_34 rfl rfl (by decide) ?_
  refine ev_iinc (3 : Int32) dX1_init_35 rfl (by decide) rfl rfl ?_
  refine ev_goto 22 dX1_init_38 (by decide) ?_
  refine ev_iload_n dX1_init_22 rfl ?_
  refine ev_bipush (20 : Int32) dX1_init_23 (by decide) ?_
  refine ev_icmp_ge 41 dX1_init_25 (by decide) (fun c => absurd c (by decide)) (fun _ => ?_)
  refine ev_aload_n dX1_init_28 rfl ?_
  refine ev_getR 3 lf_X1_9 dX1_init_29 rfl rfl rfl ?_
  refine ev_iload_n dX1_init_32 rfl ?_
  refine ev_iconst (5 : Int32) dX1_init_33 (by decide) ?_
  refine ev_iastk (N := 20) 3 dX1_init_34 rfl rfl (by decide) ?_
  refine ev_iinc (4 : Int32) dX1_init_35 rfl (by decide) rfl rfl ?_
  refine ev_goto 22 dX1_init_38 (by decide) ?_
  refine ev_iload_n dX1_init_22 rfl ?_
  refine ev_bipush (20 : Int32) dX1_init_23 (by decide) ?_
  refine ev_icmp_ge 41 dX1_init_25 (by decide) (fun c => absurd c (by decide)) (fun _ => ?_)
  refine ev_aload_n dX1_init_28 rfl ?_
  refine ev_getR 3 lf_X1_9 dX1_init_29 rfl rfl rfl ?_
  refine ev_iload_n dX1_init_32 rfl ?_
  refine ev_iconst (5 : Int32) dX1_init_33 (by decide) ?_
  refine ev_iastk (N := 20) 4 dX1_init_34 rfl rfl (by decide) ?_
  refine ev_iinc (5 : Int32) dX1_init_35 rfl (by decide) rfl rfl ?_
  refine ev_goto 22 dX1_init_38 (by decide) ?_
  refine ev_iload_n dX1_init_22 rfl ?_
  refine ev_bipush (20 : Int32) dX1_init_23 (by decide) ?_
  refine ev_icmp_ge 41 dX1_init_25 (by decide) (fun c => absurd c (by decide)) (fun _ => ?_)
  refine ev_aload_n dX1_init_28 rfl ?_
  refine ev_getR 3 lf_X1_9 dX1_init_29 rfl rfl rfl ?_
  refine ev_iload_n dX1_init_32 rfl ?_
  refine ev_iconst (5 : Int32) dX1_init_33 (by decide) ?_
  refine ev_iastk (N := 20) 5 dX1_init_34 rfl rfl (by decide) ?_
  refine ev_iinc (6 : Int32) dX1_init_35 rfl (by decide) rfl rfl ?_
  refine ev_goto 22 dX1_init_38 (by decide) ?_
  refine ev_iload_n dX1_init_22 rfl ?_
  refine ev_bipush (20 : Int32) dX1_init_23 (by decide) ?_
  refine ev_icmp_ge 41 dX1_init_25 (by decide) (fun c => absurd c (by decide)) (fun _ => ?_)
  refine ev_aload_n dX1_init_28 rfl ?_
  refine ev_getR 3 lf_X1_9 dX1_init_29 rfl rfl rfl ?_
  refine ev_iload_n dX1_init_32 rfl ?_
  refine ev_iconst (5 : Int32) dX1_init_33 (by decide) ?_
  refine ev_iastk (N := 20) 6 dX1_init_34 rfl rfl (by decide) ?_
  refine ev_iinc (7 : Int32) dX1_init_35 rfl (by decide) rfl rfl ?_
  refine ev_goto 22 dX1_init_38 (by decide) ?_
  refine ev_iload_n dX1_init_22 rfl ?_
  refine ev_bipush (20 : Int32) dX1_init_23 (by decide) ?_
  refine ev_icmp_ge 41 dX1_init_25 (by decide) (fun c => absurd c (by decide)) (fun _ => ?_)
  refine ev_aload_n dX1_init_28 rfl ?_
  refine ev_getR 3 lf_X1_9 dX1_init_29 rfl rfl rfl ?_
  refine ev_iload_n dX1_init_32 rfl ?_
  refine ev_iconst (5 : Int32) dX1_init_33 (by decide) ?_
  refine ev_iastk (N := 20) 7 dX1_init_34 rfl rfl (by decide) ?_
  refine ev_iinc (8 : Int32) dX1_init_35 rfl (by decide) rfl rfl ?_
  refine ev_goto 22 dX1_init_38 (by decide) ?_
  refine ev_iload_n dX1_init_22 rfl ?_
  refine ev_bipush (20 : Int32) dX1_init_23 (by decide) ?_
  refine ev_icmp_ge 41 dX1_init_25 (by decide) (fun c => absurd c (by decide)) (fun _ => ?_)
  refine ev_aload_n dX1_init_28 rfl ?_
  refine ev_getR 3 lf_X1_9 dX1_init_29 rfl rfl rfl ?_
  refine ev_iload_n dX1_init_32 rfl ?_
  refine ev_iconst (5 : Int32) dX1_init_33 (by decide) ?_
  refine ev_iastk (N := 20) 8 dX1_init_34 rfl rfl (by decide) ?_
  refine ev_iinc (9 : Int32) dX1_init_35 rfl (by decide) rfl rfl ?_
  refine ev_goto 22 dX1_init_38 (by decide) ?_
  refine ev_iload_n dX1_init_22 rfl ?_
  refine ev_bipush (20 : Int32) dX1_init_23 (by decide) ?_
  refine ev_icmp_ge 41 dX1_init_25 (by decide) (fun c => absurd c (by decide)) (fun _ => ?_)
  refine ev_aload_n dX1_init_28 rfl ?_
  refine ev_getR 3 lf_X1_9 dX1_init_29 rfl rfl rfl ?_
  refine ev_iload_n dX1_init_32 rfl ?_
  refine ev_iconst (5 : Int32) dX1_init_33 (by decide) ?_
  refine ev_iastk (N := 20) 9 dX1_init_34 rfl rfl (by decide) ?_
  refine ev_iinc (10 : Int32) dX1_init_35 rfl (by decide) rfl rfl ?_
  refine ev_goto 22 dX1_init_38 (by decide) ?_
  refine ev_iload_n dX1_init_22 rfl ?_
  refine ev_bipush (20 : Int32) dX1_init_23 (by decide) ?_
  refine ev_icmp_ge 41 dX1_init_25 (by decide) (fun c => absurd c (by decide)) (fun _ => ?_)
  refine ev_aload_n dX1_init_28 rfl ?_
  refine ev_getR 3 lf_X1_9 dX1_init_29 rfl rfl rfl ?_
  refine ev_iload_n dX1_init_32 rfl ?_
  refine ev_iconst (5 : Int32) dX1_init_33 (by decide) ?_
  refine ev_iastk (N := 20) 10 dX1_init_34 rfl rfl (by decide) ?_
  refine ev_iinc (11 : Int32) dX1_init_35 rfl (by decide) rfl rfl ?_
  refine ev_goto 22 dX1_init_38 (by decide) ?_
  refine ev_iload_n dX1_init_22 rfl ?_
  refine ev_bipush (20 : Int32) dX1_init_23 (by decide) ?_
  refine ev_icmp_ge 41 dX1_init_25 (by decide) (fun c => absurd c (by decide)) (fun _ => ?_)
  refine ev_aload_n dX1_init_28 rfl ?_
  refine ev_getR 3 lf_X1_9 dX1_init_29 rfl rfl rfl ?_
  refine ev_iload_n dX1_init_32 rfl ?_
  refine ev_iconst (5 : Int32) dX1_init_33 (by decide) ?_
  refine ev_iastk (N := 20) 11 dX1_init_34 rfl rfl (by decide) ?_
  refine ev_iinc (12 : Int32) dX1_init_35 rfl (by decide) rfl rfl ?_
  refine ev_goto 22 dX1_init_38 (by decide) ?_
  refine ev_iload_n dX1_init_22 rfl ?_
  refine ev_bipush (20 : Int32) dX1_init_23 (by decide) ?_
  refine ev_icmp_ge 41 dX1_init_25 (by decide) (fun c => absurd c (by decide)) (fun _ => ?_)
  refine ev_aload_n dX1_init_28 rfl ?_
  refine ev_getR 3 lf_X1_9 dX1_init_29 rfl rfl rfl ?_
  refine ev_iload_n dX1_init_32 rfl ?_
  refine ev_iconst (5 : Int32) dX1_init_33 (by decide) ?_
  refine ev_iastk (N := 20) 12 dX1_init_34 rfl rfl (by decide) ?_
  refine ev_iinc (13 : Int32) dX1_init_35 rfl (by decide) rfl rfl ?_
  refine ev_goto 22 dX1_init_38 (by decide) ?_
  refine ev_iload_n dX1_init_22 rfl ?_
  refine ev_bipush (20 : Int32) dX1_init_23 (by decide) ?_
  refine ev_icmp_ge 41 dX1_init_25 (by decide) (fun c => absurd c (by decide)) (fun _ => ?_)
  refine ev_aload_n dX1_init_28 rfl ?_
  refine ev_getR 3 lf_X1_9 dX1_init_29 rfl rfl rfl ?_
  refine ev_iload_n dX1_init_32 rfl ?_
  refine ev_iconst (5 : Int32) dX1_init_33 (by decide) ?_
  refine ev_iastk (N := 20) 13 dX1_init_34 rfl rfl (by decide) ?_
  refine ev_iinc (14 : Int32) dX1_init_35 rfl (by decide) rfl rfl ?_
  refine ev_goto 22 dX1_init_38 (by decide) ?_
  refine ev_iload_n dX1_init_22 rfl ?_
  refine ev_bipush (20 : Int32) dX1_init_23 (by decide) ?_
  refine ev_icmp_ge 41 dX1_init_25 (by decide) (fun c => absurd c (by decide)) (fun _ => ?_)
  refine ev_aload_n dX1_init_28 rfl ?_
  refine ev_getR 3 lf_X1_9 dX1_init_29 rfl rfl rfl ?_
  refine ev_iload_n dX1_init_32 rfl ?_
  refine ev_iconst (5 : Int32) dX1_init_33 (by decide) ?_
  refine ev_iastk (N := 20) 14 dX1_init_34 rfl rfl (by decide) ?_
  refine ev_iinc (15 : Int32) dX1_init_35 rfl (by decide) rfl rfl ?_
  refine ev_goto 22 dX1_init_38 (by decide) ?_
  refine ev_iload_n dX1_init_22 rfl ?_
  refine ev_bipush (20 : Int32) dX1_init_23 (by decide) ?_
  refine ev_icmp_ge 41 dX1_init_25 (by decide) (fun c => absurd c (by decide)) (fun _ => ?_)
  refine ev_aload_n dX1_init_28 rfl ?_
  refine ev_getR 3 lf_X1_9 dX1_init_29 rfl rfl rfl ?_
  refine ev_iload_n dX1_init_32 rfl ?_
  refine ev_iconst (5 : Int32) dX1_init_33 (by decide) ?_
  refine ev_iastk (N := 20) 15 dX1_init_34 rfl rfl (by decide) ?_
  refine ev_iinc (16 : Int32) dX1_init_35 rfl (by decide) rfl rfl ?_
  refine ev_goto 22 dX1_init_38 (by decide) ?_
  refine ev_iload_n dX1_init_22 rfl ?_
  refine ev_bipush (20 : Int32) dX1_init_23 (by decide) ?_
  refine ev_icmp_ge 41 dX1_init_25 (by decide) (fun c => absurd c (by decide)) (fun _ => ?_)
  refine ev_aload_n dX1_init_28 rfl ?_
  refine ev_getR 3 lf_X1_9 dX1_init_29 rfl rfl rfl ?_
  refine ev_iload_n dX1_init_32 rfl ?_
  refine ev_iconst (5 : Int32) dX1_init_33 (by decide) ?_
  refine ev_iastk (N := 20) 16 dX1_init_34 rfl rfl (by decide) ?_
  refine ev_iinc (17 : Int32) dX1_init_35 rfl (by decide) rfl rfl ?_
  refine ev_goto 22 dX1_init_38 (by decide) ?_
  refine ev_iload_n dX1_init_22 rfl ?_
  refine ev_bipush (20 : Int32) dX1_init_23 (by decide) ?_
  refine ev_icmp_ge 41 dX1_init_25 (by decide) (fun c => absurd c (by decide)) (fun _ => ?_)
  refine ev_aload_n dX1_init_28 rfl ?_
  refine ev_getR 3 lf_X1_9 dX1_init_29 rfl rfl rfl ?_
  refine ev_iload_n dX1_init_32 rfl ?_
  refine ev_iconst (5 : Int32) dX1_init_33 (by decide) ?_
  refine ev_iastk (N := 20) 17 dX1_init_34 rfl rfl (by decide) ?_
  refine ev_iinc (18 : Int32) dX1_init_35 rfl (by decide) rfl rfl ?_
  refine ev_goto 22 dX1_init_38 (by decide) ?_
  refine ev_iload_n dX1_init_22 rfl ?_
  refine ev_bipush (20 : Int32) dX1_init_23 (by decide) ?_
  refine ev_icmp_ge 41 dX1_init_25 (by decide) (fun c => absurd c (by decide)) (fun _ => ?_)
  refine ev_aload_n dX1_init_28 rfl ?_
  refine ev_getR 3 lf_X1_9 dX1_init_29 rfl rfl rfl ?_
  refine ev_iload_n dX1_init_32 rfl ?_
  refine ev_iconst (5 : Int32) dX1_init_33 (by decide) ?_
  refine ev_iastk (N := 20) 18 dX1_init_34 rfl rfl (by decide) ?_
  refine ev_iinc (19 : Int32) dX1_init_35 rfl (by decide) rfl rfl ?_
  refine ev_goto 22 dX1_init_38 (by decide) ?_
  refine ev_iload_n dX1_init_22 rfl ?_
  refine ev_bipush (20 : Int32) dX1_init_23 (by decide) ?_
  refine ev_icmp_ge 41 dX1_init_25 (by decide) (fun c => absurd c (by decide)) (fun _ => ?_)
  refine ev_aload_n dX1_init_28 rfl ?_
  refine ev_getR 3 lf_X1_9 dX1_init_29 rfl rfl rfl ?_
  refine ev_iload_n dX1_init_32 rfl ?_
  refine ev_iconst (5 : Int32) dX1_init_33 (by decide) ?_
  refine ev_iastk (N := 20) 19 dX1_init_34 rfl rfl (by decide) ?_
  refine ev_iinc (20 : Int32) dX1_init_35 rfl (by decide) rfl rfl ?_
  refine ev_goto 22 dX1_init_38 (by decide) ?_
  refine ev_iload_n dX1_init_22 rfl ?_
  refine ev_bipush (20 : Int32) dX1_init_23 (by decide) ?_
  refine ev_icmp_ge 41 dX1_init_25 (by decide) (fun _ => ?_) (fun c => absurd (by decide) c)
  exact ev_vret rfl dX1_init_41 ⟨rfl, rfl, rfl⟩
set_option maxRecDepth 100000 in
set_option maxHeartbeats 4000000 in
theorem wi_X4_init_7 : bv_Met yX4_init MX4_init bv_X0 1 8 9 [.ref 7] cr_3 cm_4 (fun r mr' mi' => r = none ∧ mr' = cr_5 ∧ mi' = cm_6) := by
  refine bv_Met.of (pn_X 4 (by decide)) rfl (fun _ => rfl) (Nat.le_of_ble_eq_true rfl) ?_
  refine ev_aload_n dX4_init_0 rfl ?_
  refine ev_objInit dX4_init_1 (List.mem_of_getElem? (i := 122) (by decide +kernel)) (List.mem_of_getElem? (i := 90) (by decide +kernel)) (List.mem_of_getElem? (i := 91) (by decide +kernel)) (by decide) (by decide) ?_
  refine ev_aload_n dX4_init_4 rfl ?_
  refine ev_bipush (50 : Int32) dX4_init_5 (by decide) ?_
  refine ev_newa (ty := .byte) (N := 50) dX4_init_7 rfl (by decide) rfl (List.mem_of_getElem? (i := 133) (by decide +kernel)) (by decide) (by decide) (by decide) (by decide) (by decide) (by decide) (fun _ => rfl) rfl rfl ?_
  refine ev_putRF lf_X4_9 dX4_init_9 rfl rfl rfl rfl rfl (by decide) ?_
  refine ev_aload_n dX4_init_12 rfl ?_
  refine ev_iconst (0 : Int32) dX4_init_13 (by decide) ?_
  refine ev_putI lf_X4_15 dX4_init_14 rfl rfl rfl rfl ?_
  exact ev_vret rfl dX4_init_17 ⟨rfl, rfl, rfl⟩
set_option maxRecDepth 100000 in
set_option maxHeartbeats 4000000 in
theorem wi_X4_init_9 : bv_Met yX4_init MX4_init bv_X0 1 10 11 [.ref 9] cr_7 cm_6 (fun r mr' mi' => r = none ∧ mr' = cr_8 ∧ mi' = cm_9) := by
  refine bv_Met.of (pn_X 4 (by decide)) rfl (fun _ => rfl) (Nat.le_of_ble_eq_true rfl) ?_
  refine ev_aload_n dX4_init_0 rfl ?_
  refine ev_objInit dX4_init_1 (List.mem_of_getElem? (i := 122) (by decide +kernel)) (List.mem_of_getElem? (i := 90) (by decide +kernel)) (List.mem_of_getElem? (i := 91) (by decide +kernel)) (by decide) (by decide) ?_
  refine ev_aload_n dX4_init_4 rfl ?_
  refine ev_bipush (50 : Int32) dX4_init_5 (by decide) ?_
  refine ev_newa (ty := .byte) (N := 50) dX4_init_7 rfl (by decide) rfl (List.mem_of_getElem? (i := 133) (by decide +kernel)) (by decide) (by decide) (by decide) (by decide) (by decide) (by decide) (fun _ => rfl) rfl rfl ?_
  refine ev_putRF lf_X4_9 dX4_init_9 rfl rfl rfl rfl rfl (by decide) ?_
  refine ev_aload_n dX4_init_12 rfl ?_
  refine ev_iconst (0 : Int32) dX4_init_13 (by decide) ?_
  refine ev_putI lf_X4_15 dX4_init_14 rfl rfl rfl rfl ?_
  exact ev_vret rfl dX4_init_17 ⟨rfl, rfl, rfl⟩
set_option maxRecDepth 100000 in
set_option maxHeartbeats 4000000 in
theorem wi_X4_init_11 : bv_Met yX4_init MX4_init bv_X0 1 12 13 [.ref 11] cr_10 cm_9 (fun r mr' mi' => r = none ∧ mr' = cr_11 ∧ mi' = cm_12) := by
  refine bv_Met.of (pn_X 4 (by decide)) rfl (fun _ => rfl) (Nat.le_of_ble_eq_true rfl) ?_
  refine ev_aload_n dX4_init_0 rfl ?_
  refine ev_objInit dX4_init_1 (List.mem_of_getElem? (i := 122) (by decide +kernel)) (List.mem_of_getElem? (i := 90) (by decide +kernel)) (List.mem_of_getElem? (i := 91) (by decide +kernel)) (by decide) (by decide) ?_
  refine ev_aload_n dX4_init_4 rfl ?_
  refine ev_bipush (50 : Int32) dX4_init_5 (by decide) ?_
  refine ev_newa (ty := .byte) (N := 50) dX4_init_7 rfl (by decide) rfl (List.mem_of_getElem? (i := 133) (by decide +kernel)) (by decide) (by decide) (by decide) (by decide) (by decide) (by decide) (fun _ => rfl) rfl rfl ?_
  refine ev_putRF lf_X4_9 dX4_init_9 rfl rfl rfl rfl rfl (by decide) ?_
  refine ev_aload_n dX4_init_12 rfl ?_
  refine ev_iconst (0 : Int32) dX4_init_13 (by decide) ?_
  refine ev_putI lf_X4_15 dX4_init_14 rfl rfl rfl rfl ?_
  exact ev_vret rfl dX4_init_17 ⟨rfl, rfl, rfl⟩
set_option maxRecDepth 100000 in
set_option maxHeartbeats 4000000 in
theorem wi_X0_init_14 : bv_Met yX0_init MX0_init bv_X0 1 15 15 [.ref 14] cr_13 cm_14 (fun r mr' mi' => r = none ∧ mr' = cr_13 ∧ mi' = cm_14) := by
  refine bv_Met.of (pn_X 0 (by decide)) rfl (fun _ => rfl) (Nat.le_of_ble_eq_true rfl) ?_
  refine ev_aload_n dX0_init_0 rfl ?_
  refine ev_objInit dX0_init_1 (List.mem_of_getElem? (i := 138) (by decide +kernel)) (List.mem_of_getElem? (i := 90) (by decide +kernel)) (List.mem_of_getElem? (i := 91) (by decide +kernel)) (by decide) (by decide) ?_
  exact ev_vret rfl dX0_init_4 ⟨rfl, rfl, rfl⟩
set_option maxRecDepth 100000 in
set_option maxHeartbeats 4000000 in
theorem wi_X0_init_15 : bv_Met yX0_init MX0_init bv_X0 1 16 16 [.ref 15] cr_15 cm_14 (fun r mr' mi' => r = none ∧ mr' = cr_15 ∧ mi' = cm_14) := by
  refine bv_Met.of (pn_X 0 (by decide)) rfl (fun _ => rfl) (Nat.le_of_ble_eq_true rfl) ?_
  refine ev_aload_n dX0_init_0 rfl ?_
  refine ev_objInit dX0_init_1 (List.mem_of_getElem? (i := 138) (by decide +kernel)) (List.mem_of_getElem? (i := 90) (by decide +kernel)) (List.mem_of_getElem? (i := 91) (by decide +kernel)) (by decide) (by decide) ?_
  exact ev_vret rfl dX0_init_4 ⟨rfl, rfl, rfl⟩
set_option maxRecDepth 100000 in
set_option maxHeartbeats 4000000 in
theorem wi_X0_init_16 : bv_Met yX0_init MX0_init bv_X0 1 17 17 [.ref 16] cr_16 cm_14 (fun r mr' mi' => r = none ∧ mr' = cr_16 ∧ mi' = cm_14) := by
  refine bv_Met.of (pn_X 0 (by decide)) rfl (fun _ => rfl) (Nat.le_of_ble_eq_true rfl) ?_
  refine ev_aload_n dX0_init_0 rfl ?_
  refine ev_objInit dX0_init_1 (List.mem_of_getElem? (i := 138) (by decide +kernel)) (List.mem_of_getElem? (i := 90) (by decide +kernel)) (List.mem_of_getElem? (i := 91) (by decide +kernel)) (by decide) (by decide) ?_
  exact ev_vret rfl dX0_init_4 ⟨rfl, rfl, rfl⟩
set_option maxRecDepth 100000 in
set_option maxHeartbeats 4000000 in
theorem wi_X0_init_17 : bv_Met yX0_init MX0_init bv_X0 1 18 18 [.ref 17] cr_17 cm_14 (fun r mr' mi' => r = none ∧ mr' = cr_17 ∧ mi' = cm_14) := by
  refine bv_Met.of (pn_X 0 (by decide)) rfl (fun _ => rfl) (Nat.le_of_ble_eq_true rfl) ?_
  refine ev_aload_n dX0_init_0 rfl ?_
  refine ev_objInit dX0_init_1 (List.mem_of_getElem? (i := 138) (by decide +kernel)) (List.mem_of_getElem? (i := 90) (by decide +kernel)) (List.mem_of_getElem? (i := 91) (by decide +kernel)) (by decide) (by decide) ?_
  exact ev_vret rfl dX0_init_4 ⟨rfl, rfl, rfl⟩
set_option maxRecDepth 100000 in
set_option maxHeartbeats 4000000 in
theorem wi_X0_init_18 : bv_Met yX0_init MX0_init bv_X0 1 19 19 [.ref 18] cr_18 cm_14 (fun r mr' mi' => r = none ∧ mr' = cr_18 ∧ mi' = cm_14) := by
  refine bv_Met.of (pn_X 0 (by decide)) rfl (fun _ => rfl) (Nat.le_of_ble_eq_true rfl) ?_
  refine ev_aload_n dX0_init_0 rfl ?_
  refine ev_objInit dX0_init_1 (List.mem_of_getElem? (i := 138) (by decide +kernel)) (List.mem_of_getElem? (i := 90) (by decide +kernel)) (List.mem_of_getElem? (i := 91) (by decide +kernel)) (by decide) (by decide) ?_
  exact ev_vret rfl dX0_init_4 ⟨rfl, rfl, rfl⟩
set_option maxRecDepth 100000 in
set_option maxHeartbeats 4000000 in
theorem wi_X0_init_19 : bv_Met yX0_init MX0_init bv_X0 1 20 20 [.ref 19] cr_19 cm_14 (fun r mr' mi' => r = none ∧ mr' = cr_19 ∧ mi' = cm_14) := by
  refine bv_Met.of (pn_X 0 (by decide)) rfl (fun _ => rfl) (Nat.le_of_ble_eq_true rfl) ?_
  refine ev_aload_n dX0_init_0 rfl ?_
  refine ev_objInit dX0_init_1 (List.mem_of_getElem? (i := 138) (by decide +kernel)) (List.mem_of_getElem? (i := 90) (by decide +kernel)) (List.mem_of_getElem? (i := 91) (by decide +kernel)) (by decide) (by decide) ?_
  exact ev_vret rfl dX0_init_4 ⟨rfl, rfl, rfl⟩
set_option maxRecDepth 100000 in
set_option maxHeartbeats 4000000 in
theorem wi_X0_init_20 : bv_Met yX0_init MX0_init bv_X0 1 21 21 [.ref 20] cr_20 cm_14 (fun r mr' mi' => r = none ∧ mr' = cr_20 ∧ mi' = cm_14) := by
  refine bv_Met.of (pn_X 0 (by decide)) rfl (fun _ => rfl) (Nat.le_of_ble_eq_true rfl) ?_
  refine ev_aload_n dX0_init_0 rfl ?_
  refine ev_objInit dX0_init_1 (List.mem_of_getElem? (i := 138) (by decide +kernel)) (List.mem_of_getElem? (i := 90) (by decide +kernel)) (List.mem_of_getElem? (i := 91) (by decide +kernel)) (by decide) (by decide) ?_
  exact ev_vret rfl dX0_init_4 ⟨rfl, rfl, rfl⟩
set_option maxRecDepth 100000 in
set_option maxHeartbeats 4000000 in
theorem wi_X0_init_21 : bv_Met yX0_init MX0_init bv_X0 1 22 22 [.ref 21] cr_21 cm_14 (fun r mr' mi' => r = none ∧ mr' = cr_21 ∧ mi' = cm_14) := by
  refine bv_Met.of (pn_X 0 (by decide)) rfl (fun _ => rfl) (Nat.le_of_ble_eq_true rfl) ?_
  refine ev_aload_n dX0_init_0 rfl ?_
  refine ev_objInit dX0_init_1 (List.mem_of_getElem? (i := 138) (by decide +kernel)) (List.mem_of_getElem? (i := 90) (by decide +kernel)) (List.mem_of_getElem? (i := 91) (by decide +kernel)) (by decide) (by decide) ?_
  exact ev_vret rfl dX0_init_4 ⟨rfl, rfl, rfl⟩
set_option maxRecDepth 100000 in
set_option maxHeartbeats 4000000 in
theorem wi_X5_init_1 : bv_Met yX5_init MX5_init bv_X0 2 2 22 [.ref 1] cr_0 cm_0 (fun r mr' mi' => r = none ∧ mr' = cr_22 ∧ mi' = cm_14) := by
  refine bv_Met.of (pn_X 5 (by decide)) rfl (fun _ => rfl) (Nat.le_of_ble_eq_true rfl) ?_
  refine ev_aload_n dX5_init_0 rfl ?_
  refine ev_objInit dX5_init_1 (List.mem_of_getElem? (i := 97) (by decide +kernel)) (List.mem_of_getElem? (i := 90) (by decide +kernel)) (List.mem_of_getElem? (i := 91) (by decide +kernel)) (by decide) (by decide) ?_
  refine ev_aload_n dX5_init_4 rfl ?_
  refine ev_new (ci := 1) dX5_init_5 rfl (by decide) (List.mem_of_getElem? (i := 98) (by decide +kernel)) (List.mem_of_getElem? (i := 99) (by decide +kernel)) (List.mem_of_getElem? (i := 74) (by decide +kernel)) (by decide) (by decide) (by decide) (fun _ => rfl) (fun _ => rfl) rfl rfl ?_
  refine ev_dup dX5_init_8 rfl ?_
  refine ev_callI [] lk_X5_11 dX5_init_9 rfl rfl (fun _ _ q => q) wi_X1_init_2 (by decide) (by decide) (by decide) (by decide) (by decide) (Or.inr ⟨rfl, rfl⟩) (fun r mr' mi' hq => ?_)
  obtain ⟨rfl, rfl, rfl⟩ := hq
  refine ev_putRF lf_X5_12 dX5_init_12 rfl rfl rfl rfl rfl (by decide) ?_
  refine ev_aload_n dX5_init_15 rfl ?_
  refine ev_iconst (5 : Int32) dX5_init_16 (by decide) ?_
  refine ev_newa (ty := .int) (N := 5) dX5_init_17 rfl (by decide) rfl (List.mem_of_getElem? (i := 114) (by decide +kernel)) (by decide) (by decide) (by decide) (by decide) (by decide) (by decide) (fun _ => rfl) rfl rfl ?_
  refine ev_putRF lf_X5_18 dX5_init_19 rfl rfl rfl rfl rfl (by decide) ?_
  refine ev_aload_n dX5_init_22 rfl ?_
  refine ev_iconst (0 : Int32) dX5_init_23 (by decide) ?_
  refine ev_putI lf_X5_22 dX5_init_24 rfl rfl rfl rfl ?_
  refine ev_aload_n dX5_init_27 rfl ?_
  refine ev_bipush (8 : Int32) dX5_init_28 (by decide) ?_
  refine ev_newq (C := RX0) (N := 8) dX5_init_30 rfl (List.mem_of_getElem? (i := 115) (by decide +kernel)) (List.mem_of_getElem? (i := 116) (by decide +kernel)) (by decide) (by decide) (by decide) (by decide) (by decide) (by decide) (fun _ => rfl) rfl rfl ?_
  refine ev_putRF lf_X5_28 dX5_init_33 rfl rfl rfl rfl rfl (by decide) ?_
  refine ev_aload_n dX5_init_36 rfl ?_
  refine ev_iconst (0 : Int32) dX5_init_37 (by decide) ?_
  refine ev_putI lf_X5_32 dX5_init_38 rfl rfl rfl rfl ?_
  refine ev_aload_n dX5_init_41 rfl ?_
  refine ev_iconst (0 : Int32) dX5_init_42 (by decide) ?_
  refine ev_putI lf_X5_35 dX5_init_43 rfl rfl rfl rfl ?_
  refine ev_aload_n dX5_init_46 rfl ?_
  refine ev_iconst (1 : Int32) dX5_init_47 (by decide) ?_
  refine ev_putI lf_X5_38 dX5_init_48 rfl rfl rfl rfl ?_
  refine ev_aload_n dX5_init_51 rfl ?_
  refine ev_new (ci := 4) dX5_init_52 rfl (by decide) (List.mem_of_getElem? (i := 117) (by decide +kernel)) (List.mem_of_getElem? (i := 118) (by decide +kernel)) (List.mem_of_getElem? (i := 75) (by decide +kernel)) (by decide) (by decide) (by decide) (fun _ => rfl) (fun _ => rfl) rfl rfl ?_
  refine ev_dup dX5_init_55 rfl ?_
  refine ev_callIN [] lk_X5_43 dX5_init_56 rfl rfl (fun _ _ q => q) wi_X4_init_7 (by decide) (by decide) (by decide) (by decide) (by decide) (Or.inr ⟨rfl, rfl⟩) (fun r mr' mi' hq => ?_)
  obtain ⟨rfl, rfl, rfl⟩ := hq
  refine ev_putRF lf_X5_44 dX5_init_59 rfl rfl rfl rfl rfl (by decide) ?_
  refine ev_aload_n dX5_init_62 rfl ?_
  refine ev_new (ci := 4) dX5_init_63 rfl (by decide) (List.mem_of_getElem? (i := 117) (by decide +kernel)) (List.mem_of_getElem? (i := 118) (by decide +kernel)) (List.mem_of_getElem? (i := 75) (by decide +kernel)) (by decide) (by decide) (by decide) (fun _ => rfl) (fun _ => rfl) rfl rfl ?_
  refine ev_dup dX5_init_66 rfl ?_
  refine ev_callIN [] lk_X5_43 dX5_init_67 rfl rfl (fun _ _ q => q) wi_X4_init_9 (by decide) (by decide) (by decide) (by decide) (by decide) (Or.inr ⟨rfl, rfl⟩) (fun r mr' mi' hq => ?_)
  obtain ⟨rfl, rfl, rfl⟩ := hq
  refine ev_putRF lf_X5_48 dX5_init_70 rfl rfl rfl rfl rfl (by decide) ?_
  refine ev_aload_n dX5_init_73 rfl ?_
  refine ev_new (ci := 4) dX5_init_74 rfl (by decide) (List.mem_of_getElem? (i := 117) (by decide +kernel)) (List.mem_of_getElem? (i := 118) (by decide +kernel)) (List.mem_of_getElem? (i := 75) (by decide +kernel)) (by decide) (by decide) (by decide) (fun _ => rfl) (fun _ => rfl) rfl rfl ?_
  refine ev_dup dX5_init_77 rfl ?_
  refine ev_callIN [] lk_X5_43 dX5_init_78 rfl rfl (fun _ _ q => q) wi_X4_init_11 (by decide) (by decide) (by decide) (by decide) (by decide) (Or.inr ⟨rfl, rfl⟩) (fun r mr' mi' hq => ?_)
  obtain ⟨rfl, rfl, rfl⟩ := hq
  refine ev_putRF lf_X5_51 dX5_init_81 rfl rfl rfl rfl rfl (by decide) ?_
  refine ev_aload_n dX5_init_84 rfl ?_
  refine ev_bipush (20 : Int32) dX5_init_85 (by decide) ?_
  refine ev_newa (ty := .int) (N := 20) dX5_init_87 rfl (by decide) rfl (List.mem_of_getElem? (i := 114) (by decide +kernel)) (by decide) (by decide) (by decide) (by decide) (by decide) (by decide) (fun _ => rfl) rfl rfl ?_
  refine ev_putRF lf_X5_54 dX5_init_89 rfl rfl rfl rfl rfl (by decide) ?_
  refine ev_aload_n dX5_init_92 rfl ?_
  refine ev_iconst (0 : Int32) dX5_init_93 (by decide) ?_
  refine ev_putI lf_X5_57 dX5_init_94 rfl rfl rfl rfl ?_
  refine ev_iconst (0 : Int32) dX5_init_97 (by decide) ?_
  refine ev_istore_n dX5_init_98 rfl rfl ?_
  refine ev_iload_n dX5_init_99 rfl ?_
  refine ev_bipush (8 : Int32) dX5_init_100 (by decide) ?_
  refine ev_icmp_ge 124 dX5_init_102 (by decide) (fun c => absurd c (by decide)) (fun _ => ?_)
  refine ev_aload_n dX5_init_105 rfl ?_
  refine ev_getR 6 lf_X5_28 dX5_init_106 rfl rfl rfl ?_
  refine ev_iload_n dX5_init_109 rfl ?_
  refine ev_new (ci := 0) dX5_init_110 rfl (by decide) (List.mem_of_getElem? (i := 115) (by decide +kernel)) (List.mem_of_getElem? (i := 134) (by decide +kernel)) (List.mem_of_getElem? (i := 76) (by decide +kernel)) (by decide) (by decide) (by decide) (fun _ => rfl) (fun _ => rfl) rfl rfl ?_
  refine ev_dup dX5_init_113 rfl ?_
  refine ev_callIN [] lk_X5_60 dX5_init_114 rfl rfl (fun _ _ q => q) wi_X0_init_14 (by decide) (by decide) (by decide) (by decide) (by decide) (Or.inr ⟨rfl, rfl⟩) (fun r mr' mi' hq => ?_)
  obtain ⟨rfl, rfl, rfl⟩ := hq
  refine ev_aastk (ci := 0) (N := 8) 0 dX5_init_117 (by decide) rfl (by decide) rfl rfl (by decide) ?_
  refine ev_iinc (1 : Int32) dX5_init_118 rfl (by decide) rfl rfl ?_
  refine ev_goto 99 dX5_init_121 (by decide) ?_
  refine ev_iload_n dX5_init_99 rfl ?_
  refine ev_bipush (8 : Int32) dX5_init_100 (by decide) ?_
  refine ev_icmp_ge 124 dX5_init_102 (by decide) (fun c => absurd c (by decide)) (fun _ => ?_)
  refine ev_aload_n dX5_init_105 rfl ?_
  refine ev_getR 6 lf_X5_28 dX5_init_106 rfl rfl rfl ?_
  refine ev_iload_n dX5_init_109 rfl ?_
  refine ev_new (ci := 0) dX5_init_110 rfl (by decide) (List.mem_of_getElem? (i := 115) (by decide +kernel)) (List.mem_of_getElem? (i := 134) (by decide +kernel)) (List.mem_of_getElem? (i := 76) (by decide +kernel)) (by decide) (by decide) (by decide) (fun _ => rfl) (fun _ => rfl) rfl rfl ?_
  refine ev_dup dX5_init_113 rfl ?_
  refine ev_callIN [] lk_X5_60 dX5_init_114 rfl rfl (fun _ _ q => q) wi_X0_init_15 (by decide) (by decide) (by decide) (by decide) (by decide) (Or.inr ⟨rfl, rfl⟩) (fun r mr' mi' hq => ?_)
  obtain ⟨rfl, rfl, rfl⟩ := hq
  refine ev_aastk (ci := 0) (N := 8) 1 dX5_init_117 (by decide) rfl (by decide) rfl rfl (by decide) ?_
  refine ev_iinc (2 : Int32) dX5_init_118 rfl (by decide) rfl rfl ?_
  refine ev_goto 99 dX5_init_121 (by decide) ?_
  refine ev_iload_n dX5_init_99 rfl ?_
  refine ev_bipush (8 : Int32) dX5_init_100 (by decide) ?_
  refine ev_icmp_ge 124 dX5_init_102 (by decide) (fun c => absurd c (by decide)) (fun _ => ?_)
  refine ev_aload_n dX5_init_105 rfl ?_
  refine ev_getR 6 lf_X5_28 dX5_init_106 rfl rfl rfl ?_
  refine ev_iload_n dX5_init_109 rfl ?_
  refine ev_new (ci := 0) dX5_init_110 rfl (by decide) (List.mem_of_getElem? (i := 115) (by decide +kernel)) (List.mem_of_getElem? (i := 134) (by decide +kernel)) (List.mem_of_getElem? (i := 76) (by decide +kernel)) (by decide) (by decide) (by decide) (fun _ => rfl) (fun _ => rfl) rfl rfl ?_
  refine ev_dup dX5_init_113 rfl ?_
  refine ev_callIN [] lk_X5_60 dX5_init_114 rfl rfl (fun _ _ q => q) wi_X0_init_16 (by decide) (by decide) (by decide) (by decide) (by decide) (Or.inr ⟨rfl, rfl⟩) (fun r mr' mi' hq => ?_)
  obtain ⟨rfl, rfl, rfl⟩ := hq
  refine ev_aastk (ci := 0) (N := 8) 2 dX5_init_117 (by decide) rfl (by decide) rfl rfl (by decide) ?_
  refine ev_iinc (3 : Int32) dX5_init_118 rfl (by decide) rfl rfl ?_
  refine ev_goto 99 dX5_init_121 (by decide) ?_
  refine ev_iload_n dX5_init_99 rfl ?_
  refine ev_bipush (8 : Int32) dX5_init_100 (by decide) ?_
  refine ev_icmp_ge 124 dX5_init_102 (by decide) (fun c => absurd c (by decide)) (fun _ => ?_)
  refine ev_aload_n dX5_init_105 rfl ?_
  refine ev_getR 6 lf_X5_28 dX5_init_106 rfl rfl rfl ?_
  refine ev_iload_n dX5_init_109 rfl ?_
  refine ev_new (ci := 0) dX5_init_110 rfl (by decide) (List.mem_of_getElem? (i := 115) (by decide +kernel)) (List.mem_of_getElem? (i := 134) (by decide +kernel)) (List.mem_of_getElem? (i := 76) (by decide +kernel)) (by decide) (by decide) (by decide) (fun _ => rfl) (fun _ => rfl) rfl rfl ?_
  refine ev_dup dX5_init_113 rfl ?_
  refine ev_callIN [] lk_X5_60 dX5_init_114 rfl rfl (fun _ _ q => q) wi_X0_init_17 (by decide) (by decide) (by decide) (by decide) (by decide) (Or.inr ⟨rfl, rfl⟩) (fun r mr' mi' hq => ?_)
  obtain ⟨rfl, rfl, rfl⟩ := hq
  refine ev_aastk (ci := 0) (N := 8) 3 dX5_init_117 (by decide) rfl (by decide) rfl rfl (by decide) ?_
  refine ev_iinc (4 : Int32) dX5_init_118 rfl (by decide) rfl rfl ?_
  refine ev_goto 99 dX5_init_121 (by decide) ?_
  refine ev_iload_n dX5_init_99 rfl ?_
  refine ev_bipush (8 : Int32) dX5_init_100 (by decide) ?_
  refine ev_icmp_ge 124 dX5_init_102 (by decide) (fun c => absurd c (by decide)) (fun _ => ?_)
  refine ev_aload_n dX5_init_105 rfl ?_
  refine ev_getR 6 lf_X5_28 dX5_init_106 rfl rfl rfl ?_
  refine ev_iload_n dX5_init_109 rfl ?_
  refine ev_new (ci := 0) dX5_init_110 rfl (by decide) (List.mem_of_getElem? (i := 115) (by decide +kernel)) (List.mem_of_getElem? (i := 134) (by decide +kernel)) (List.mem_of_getElem? (i := 76) (by decide +kernel)) (by decide) (by decide) (by decide) (fun _ => rfl) (fun _ => rfl) rfl rfl ?_
  refine ev_dup dX5_init_113 rfl ?_
  refine ev_callIN [] lk_X5_60 dX5_init_114 rfl rfl (fun _ _ q => q) wi_X0_init_18 (by decide) (by decide) (by decide) (by decide) (by decide) (Or.inr ⟨rfl, rfl⟩) (fun r mr' mi' hq => ?_)
  obtain ⟨rfl, rfl, rfl⟩ := hq
  refine ev_aastk (ci := 0) (N := 8) 4 dX5_init_117 (by decide) rfl (by decide) rfl rfl (by decide) ?_
  refine ev_iinc (5 : Int32) dX5_init_118 rfl (by decide) rfl rfl ?_
  refine ev_goto 99 dX5_init_121 (by decide) ?_
  refine ev_iload_n dX5_init_99 rfl ?_
  refine ev_bipush (8 : Int32) dX5_init_100 (by decide) ?_
  refine ev_icmp_ge 124 dX5_init_102 (by decide) (fun c => absurd c (by decide)) (fun _ => ?_)
  refine ev_aload_n dX5_init_105 rfl ?_
  refine ev_getR 6 lf_X5_28 dX5_init_106 rfl rfl rfl ?_
  refine ev_iload_n dX5_init_109 rfl ?_
  refine ev_new (ci := 0) dX5_init_110 rfl (by decide) (List.mem_of_getElem? (i := 115) (by decide +kernel)) (List.mem_of_getElem? (i := 134) (by decide +kernel)) (List.mem_of_getElem? (i := 76) (by decide +kernel)) (by decide) (by decide) (by decide) (fun _ => rfl) (fun _ => rfl) rfl rfl ?_
  refine ev_dup dX5_init_113 rfl ?_
  refine ev_callIN [] lk_X5_60 dX5_init_114 rfl rfl (fun _ _ q => q) wi_X0_init_19 (by decide) (by decide) (by decide) (by decide) (by decide) (Or.inr ⟨rfl, rfl⟩) (fun r mr' mi' hq => ?_)
  obtain ⟨rfl, rfl, rfl⟩ := hq
  refine ev_aastk (ci := 0) (N := 8) 5 dX5_init_117 (by decide) rfl (by decide) rfl rfl (by decide) ?_
  refine ev_iinc (6 : Int32) dX5_init_118 rfl (by decide) rfl rfl ?_
  refine ev_goto 99 dX5_init_121 (by decide) ?_
  refine ev_iload_n dX5_init_99 rfl ?_
  refine ev_bipush (8 : Int32) dX5_init_100 (by decide) ?_
  refine ev_icmp_ge 124 dX5_init_102 (by decide) (fun c => absurd c (by decide)) (fun _ => ?_)
  refine ev_aload_n dX5_init_105 rfl ?_
  refine ev_getR 6 lf_X5_28 dX5_init_106 rfl rfl rfl ?_
  refine ev_iload_n dX5_init_109 rfl ?_
  refine ev_new (ci := 0) dX5_init_110 rfl (by decide) (List.mem_of_getElem? (i := 115) (by decide +kernel)) (List.mem_of_getElem? (i := 134) (by decide +kernel)) (List.mem_of_getElem? (i := 76) (by decide +kernel)) (by decide) (by decide) (by decide) (fun _ => rfl) (fun _ => rfl) rfl rfl ?_
  refine ev_dup dX5_init_113 rfl ?_
  refine ev_callIN [] lk_X5_60 dX5_init_114 rfl rfl (fun _ _ q => q) wi_X0_init_20 (by decide) (by decide) (by decide) (by decide) (by decide) (Or.inr ⟨rfl, rfl⟩) (fun r mr' mi' hq => ?_)
  obtain ⟨rfl, rfl, rfl⟩ := hq
  refine ev_aastk (ci := 0) (N := 8) 6 dX5_init_117 (by decide) rfl (by decide) rfl rfl (by decide) ?_
  refine ev_iinc (7 : Int32) dX5_init_118 rfl (by decide) rfl rfl ?_
  refine ev_goto 99 dX5_init_121 (by decide) ?_
  refine ev_iload_n dX5_init_99 rfl ?_
  refine ev_bipush (8 : Int32) dX5_init_100 (by decide) ?_
  refine ev_icmp_ge 124 dX5_init_102 (by decide) (fun c => absurd c (by decide)) (fun _ => ?_)
  refine ev_aload_n dX5_init_105 rfl ?_
  refine ev_getR 6 lf_X5_28 dX5_init_106 rfl rfl rfl ?_
  refine ev_iload_n dX5_init_109 rfl ?_
  refine ev_new (ci := 0) dX5_init_110 rfl (by decide) (List.mem_of_getElem? (i := 115) (by decide +kernel)) (List.mem_of_getElem? (i := 134) (by decide +kernel)) (List.mem_of_getElem? (i := 76) (by decide +kernel)) (by decide) (by decide) (by decide) (fun _ => rfl) (fun _ => rfl) rfl rfl ?_
  refine ev_dup dX5_init_113 rfl ?_
  refine ev_callIN [] lk_X5_60 dX5_init_114 rfl rfl (fun _ _ q => q) wi_X0_init_21 (by decide) (by decide) (by decide) (by decide) (by decide) (Or.inr ⟨rfl, rfl⟩) (fun r mr' mi' hq => ?_)
  obtain ⟨rfl, rfl, rfl⟩ := hq
  refine ev_aastk (ci := 0) (N := 8) 7 dX5_init_117 (by decide) rfl (by decide) rfl rfl (by decide) ?_
  refine ev_iinc (8 : Int32) dX5_init_118 rfl (by decide) rfl rfl ?_
  refine ev_goto 99 dX5_init_121 (by decide) ?_
  refine ev_iload_n dX5_init_99 rfl ?_
  refine ev_bipush (8 : Int32) dX5_init_100 (by decide) ?_
  refine ev_icmp_ge 124 dX5_init_102 (by decide) (fun _ => ?_) (fun c => absurd (by decide) c)
  exact ev_vret rfl dX5_init_124 ⟨rfl, rfl, rfl⟩
set_option maxRecDepth 100000 in
set_option maxHeartbeats 4000000 in
theorem wi_X1_init_23 : bv_Met yX1_init MX1_init bv_X0 1 24 26 [.ref 23] cr_23 cm_14 (fun r mr' mi' => r = none ∧ mr' = cr_24 ∧ mi' = cm_25) := by
  refine bv_Met.of (pn_X 1 (by decide)) rfl (fun _ => rfl) (Nat.le_of_ble_eq_true rfl) ?_
  refine ev_aload_n dX1_init_0 rfl ?_
  refine ev_objInit dX1_init_1 (List.mem_of_getElem? (i := 103) (by decide +kernel)) (List.mem_of_getElem? (i := 90) (by decide +kernel)) (List.mem_of_getElem? (i := 91) (by decide +kernel)) (by decide) (by decide) ?_
  refine ev_aload_n dX1_init_4 rfl ?_
  refine ev_bipush (20 : Int32) dX1_init_5 (by decide) ?_
  refine ev_newa (ty := .int) (N := 20) dX1_init_7 rfl (by decide) rfl (List.mem_of_getElem? (i := 114) (by decide +kernel)) (by decide) (by decide) (by decide) (by decide) (by decide) (by decide) (fun _ => rfl) rfl rfl ?_
  refine ev_putRF lf_X1_9 dX1_init_9 rfl rfl rfl rfl rfl (by decide) ?_
  refine ev_aload_n dX1_init_12 rfl ?_
  refine ev_bipush (20 : Int32) dX1_init_13 (by decide) ?_
  refine ev_newa (ty := .int) (N := 20) dX1_init_15 rfl (by decide) rfl (List.mem_of_getElem? (i := 114) (by decide +kernel)) (by decide) (by decide) (by decide) (by decide) (by decide) (by decide) (fun _ => rfl) rfl rfl ?_
  refine ev_putRF lf_X1_15 dX1_init_17 rfl rfl rfl rfl rfl (by decide) ?_
  refine ev_iconst (0 : Int32) dX1_init_20 (by decide) ?_
  refine ev_istore_n dX1_init_21 rfl rfl ?_
  refine ev_iload_n dX1_init_22 rfl ?_
  refine ev_bipush (20 : Int32) dX1_init_23 (by decide) ?_
  refine ev_icmp_ge 41 dX1_init_25 (by decide) (fun c => absurd c (by decide)) (fun _ => ?_)
  refine ev_aload_n dX1_init_28 rfl ?_
  refine ev_getR 24 lf_X1_9 dX1_init_29 rfl rfl rfl ?_
  refine ev_iload_n dX1_init_32 rfl ?_
  refine ev_iconst (5 : Int32) dX1_init_33 (by decide) ?_
  refine ev_iastk (N := 20) 0 dX1_init_34 rfl rfl (by decide) ?_
  refine ev_iinc (1 : Int32) dX1_init_35 rfl (by decide) rfl rfl ?_
  refine ev_goto 22 dX1_init_38 (by decide) ?_
  refine ev_iload_n dX1_init_22 rfl ?_
  refine ev_bipush (20 : Int32) dX1_init_23 (by decide) ?_
  refine ev_icmp_ge 41 dX1_init_25 (by decide) (fun c => absurd c (by decide)) (fun _ => ?_)
  refine ev_aload_n dX1_init_28 rfl ?_
  refine ev_getR 24 lf_X1_9 dX1_init_29 rfl rfl rfl ?_
  refine ev_iload_n dX1_init_32 rfl ?_
  refine ev_iconst (5 : Int32) dX1_init_33 (by decide) ?_
  refine ev_iastk (N := 20) 1 dX1_init_34 rfl rfl (by decide) ?_
  refine ev_iinc (2 : Int32) dX1_init_35 rfl (by decide) rfl rfl ?_
  refine ev_goto 22 dX1_init_38 (by decide) ?_
  refine ev_iload_n dX1_init_22 rfl ?_
  refine ev_bipush (20 : Int32) dX1_init_23 (by decide) ?_
  refine ev_icmp_ge 41 dX1_init_25 (by decide) (fun c => absurd c (by decide)) (fun _ => ?_)
  refine ev_aload_n dX1_init_28 rfl ?_
  refine ev_getR 24 lf_X1_9 dX1_init_29 rfl rfl rfl ?_
  refine ev_iload_n dX1_init_32 rfl ?_
  refine ev_iconst (5 : Int32) dX1_init_33 (by decide) ?_
  refine ev_iastk (N := 20) 2 dX1_init_34 rfl rfl (by decide) ?_
  refine ev_iinc (3 : Int32) dX1_init_35 rfl (by decide) rfl rfl ?_
  refine ev_goto 22 dX1_init_38 (by decide) ?_
  refine ev_iload_n dX1_init_22 rfl ?_
  refine ev_bipush (20 : Int32) dX1_init_23 (by decide) ?_
  refine ev_icmp_ge 41 dX1_init_25 (by decide) (fun c => absurd c (by decide)) (fun _ => ?_)
  refine ev_aload_n dX1_init_28 rfl ?_
  refine ev_getR 24 lf_X1_9 dX1_init_29 rfl rfl rfl ?_
  refine ev_iload_n dX1_init_32 rfl ?_
  refine ev_iconst (5 : Int32) dX1_init_33 (by decide) ?_
  refine ev_iastk (N := 20) 3 dX1_init_34 rfl rfl (by decide) ?_
  refine ev_iinc (4 : Int32) dX1_init_35 rfl (by decide) rfl rfl ?_
  refine ev_goto 22 dX1_init_38 (by decide) ?_
  refine ev_iload_n dX1_init_22 rfl ?_
  refine ev_bipush (20 : Int32) dX1_init_23 (by decide) ?_
  refine ev_icmp_ge 41 dX1_init_25 (by decide) (fun c => absurd c (by decide)) (fun _ => ?_)
  refine ev_aload_n dX1_init_28 rfl ?_
  refine ev_getR 24 lf_X1_9 dX1_init_29 rfl rfl rfl ?_
  refine ev_iload_n dX1_init_32 rfl ?_
  refine ev_iconst (5 : Int32) dX1_init_33 (by decide) ?_
  refine ev_iastk (N := 20) 4 dX1_init_34 rfl rfl (by decide) ?_
  refine ev_iinc (5 : Int32) dX1_init_35 rfl (by decide) rfl rfl ?_
  refine ev_goto 22 dX1_init_38 (by decide) ?_
  refine ev_iload_n dX1_init_22 rfl ?_
  refine ev_bipush (20 : Int32) dX1_init_23 (by decide) ?_
  refine ev_icmp_ge 41 dX1_init_25 (by decide) (fun c => absurd c (by decide)) (fun _ => ?_)
  refine ev_aload_n dX1_init_28 rfl ?_
  refine ev_getR 24 lf_X1_9 dX1_init_29 rfl rfl rfl ?_
  refine ev_iload_n dX1_init_32 rfl ?_
  refine ev_iconst (5 : Int32) dX1_init_33 (by decide) ?_
  refine ev_iastk (N := 20) 5 dX1_init_34 rfl rfl (by decide) ?_
  refine ev_iinc (6 : Int32) dX1_init_35 rfl (by decide) rfl rfl ?_
  refine ev_goto 22 dX1_init_38 (by decide) ?_
  refine ev_iload_n dX1_init_22 rfl ?_
  refine ev_bipush (20 : Int32) dX1_init_23 (by decide) ?_
  refine ev_icmp_ge 41 dX1_init_25 (by decide) (fun c => absurd c (by decide)) (fun _ => ?_)
  refine ev_aload_n dX1_init_28 rfl ?_
  refine ev_getR 24 lf_X1_9 dX1_init_29 rfl rfl rfl ?_
  refine ev_iload_n dX1_init_32 rfl ?_
  refine ev_iconst (5 : Int32) dX1_init_33 (by decide) ?_
  refine ev_iastk (N := 20) 6 dX1_init_34 rfl rfl (by decide) ?_
  refine ev_iinc (7 : Int32) dX1_init_35 rfl (by decide) rfl rfl ?_
  refine ev_goto 22 dX1_init_38 (by decide) ?_
  refine ev_iload_n dX1_init_22 rfl ?_
  refine ev_bipush (20 : Int32) dX1_init_23 (by decide) ?_
  refine ev_icmp_ge 41 dX1_init_25 (by decide) (fun c => absurd c (by decide)) (fun _ => ?_)
  refine ev_aload_n dX1_init_28 rfl ?_
  refine ev_getR 24 lf_X1_9 dX1_init_29 rfl rfl rfl ?_
  refine ev_iload_n dX1_init_32 rfl ?_
  refine ev_iconst (5 : Int32) dX1_init_33 (by decide) ?_
  refine ev_iastk (N := 20) 7 dX1_init_34 rfl rfl (by decide) ?_
  refine ev_iinc (8 : Int32) dX1_init_35 rfl (by decide) rfl rfl ?_
  refine ev_goto 22 dX1_init_38 (by decide) ?_
  refine ev_iload_n dX1_init_22 rfl ?_
  refine ev_bipush (20 : Int32) dX1_init_23 (by decide) ?_
  refine ev_icmp_ge 41 dX1_init_25 (by decide) (fun c => absurd c (by decide)) (fun _ => ?_)
  refine ev_aload_n dX1_init_28 rfl ?_
  refine ev_getR 24 lf_X1_9 dX1_init_29 rfl rfl rfl ?_
  refine ev_iload_n dX1_init_32 rfl ?_
  refine ev_iconst (5 : Int32) dX1_init_33 (by decide) ?_
  refine ev_iastk (N := 20) 8 dX1_init_34 rfl rfl (by decide) ?_
  refine ev_iinc (9 : Int32) dX1_init_35 rfl (by decide) rfl rfl ?_
  refine ev_goto 22 dX1_init_38 (by decide) ?_
  refine ev_iload_n dX1_init_22 rfl ?_
  refine ev_bipush (20 : Int32) dX1_init_23 (by decide) ?_
  refine ev_icmp_ge 41 dX1_init_25 (by decide) (fun c => absurd c (by decide)) (fun _ => ?_)
  refine ev_aload_n dX1_init_28 rfl ?_
  refine ev_getR 24 lf_X1_9 dX1_init_29 rfl rfl rfl ?_
  refine ev_iload_n dX1_init_32 rfl ?_
  refine ev_iconst (5 : Int32) dX1_init_33 (by decide) ?_
  refine ev_iastk (N := 20) 9 dX1_init_34 rfl rfl (by decide) ?_
  refine ev_iinc (10 : Int32) dX1_init_35 rfl (by decide) rfl rfl ?_
  refine ev_goto 22 dX1_init_38 (by decide) ?_
  refine ev_iload_n dX1_init_22 rfl ?_
  refine ev_bipush (20 : Int32) dX1_init_23 (by decide) ?_
  refine ev_icmp_ge 41 dX1_init_25 (by decide) (fun c => absurd c (by decide)) (fun _ => ?_)
  refine ev_aload_n dX1_init_28 rfl ?_
  refine ev_getR 24 lf_X1_9 dX1_init_29 rfl rfl rfl ?_
  refine ev_iload_n dX1_init_32 rfl ?_
  refine ev_iconst (5 : Int32) dX1_init_33 (by decide) ?_
  refine ev_iastk (N := 20) 10 dX1_init_34 rfl rfl (by decide) ?_
  refine ev_iinc (11 : Int32) dX1_init_35 rfl (by decide) rfl rfl ?_
  refine ev_goto 22 dX1_init_38 (by decide) ?_
  refine ev_iload_n dX1_init_22 rfl ?_
  refine ev_bipush (20 : Int32) dX1_init_23 (by decide) ?_
  refine ev_icmp_ge 41 dX1_init_25 (by decide) (fun c => absurd c (by decide)) (fun _ => ?_)
  refine ev_aload_n dX1_init_28 rfl ?_
  refine ev_getR 24 lf_X1_9 dX1_init_29 rfl rfl rfl ?_
  refine ev_iload_n dX1_init_32 rfl ?_
  refine ev_iconst (5 : Int32) dX1_init_33 (by decide) ?_
  refine ev_iastk (N := 20) 11 dX1_init_34 rfl rfl (by decide) ?_
  refine ev_iinc (12 : Int32) dX1_init_35 rfl (by decide) rfl rfl ?_
  refine ev_goto 22 dX1_init_38 (by decide) ?_
  refine ev_iload_n dX1_init_22 rfl ?_
  refine ev_bipush (20 : Int32) dX1_init_23 (by decide) ?_
  refine ev_icmp_ge 41 dX1_init_25 (by decide) (fun c => absurd c (by decide)) (fun _ => ?_)
  refine ev_aload_n dX1_init_28 rfl ?_
  refine ev_getR 24 lf_X1_9 dX1_init_29 rfl rfl rfl ?_
  refine ev_iload_n dX1_init_32 rfl ?_
  refine ev_iconst (5 : Int32) dX1_init_33 (by decide) ?_
  refine ev_iastk (N := 20) 12 dX1_init_34 rfl rfl (by decide) ?_
  refine ev_iinc (13 : Int32) dX1_init_35 rfl (by decide) rfl rfl ?_
  refine ev_goto 22 dX1_init_38 (by decide) ?_
  refine ev_iload_n dX1_init_22 rfl ?_
  refine ev_bipush (20 : Int32) dX1_init_23 (by decide) ?_
  refine ev_icmp_ge 41 dX1_init_25 (by decide) (fun c => absurd c (by decide)) (fun _ => ?_)
  refine ev_aload_n dX1_init_28 rfl ?_
  refine ev_getR 24 lf_X1_9 dX1_init_29 rfl rfl rfl ?_
  refine ev_iload_n dX1_init_32 rfl ?_
  refine ev_iconst (5 : Int32) dX1_init_33 (by decide) ?_
  refine ev_iastk (N := 20) 13 dX1_init_34 rfl rfl (by decide) ?_
  refine ev_iinc (14 : Int32) dX1_init_35 rfl (by decide) rfl rfl ?_
  refine ev_goto 22 dX1_init_38 (by decide) ?_
  refine ev_iload_n dX1_init_22 rfl ?_
  refine ev_bipush (20 : Int32) dX1_init_23 (by decide) ?_
  refine ev_icmp_ge 41 dX1_init_25 (by decide) (fun c => absurd c (by decide)) (fun _ => ?_)
  refine ev_aload_n dX1_init_28 rfl ?_
  refine ev_getR 24 lf_X1_9 dX1_init_29 rfl rfl rfl ?_
  refine ev_iload_n dX1_init_32 rfl ?_
  refine ev_iconst (5 : Int32) dX1_init_33 (by decide) ?_
  refine ev_iastk (N := 20) 14 dX1_init_34 rfl rfl (by decide) ?_
  refine ev_iinc (15 : Int32) dX1_init_35 rfl (by decide) rfl rfl ?_
  refine ev_goto 22 dX1_init_38 (by decide) ?_
  refine ev_iload_n dX1_init_22 rfl ?_
  refine ev_bipush (20 : Int32) dX1_init_23 (by decide) ?_
  refine ev_icmp_ge 41 dX1_init_25 (by decide) (fun c => absurd c (by decide)) (fun _ => ?_)
  refine ev_aload_n dX1_init_28 rfl ?_
  refine ev_getR 24 lf_X1_9 dX1_init_29 rfl rfl rfl ?_
  refine ev_iload_n dX1_init_32 rfl ?_
  refine ev_iconst (5 : Int32) dX1_init_33 (by decide) ?_
  refine ev_iastk (N := 20) 15 dX1_init_34 rfl rfl (by decide) ?_
  refine ev_iinc (16 : Int32) dX1_init_35 rfl (by decide) rfl rfl ?_
  refine ev_goto 22 dX1_init_38 (by decide) ?_
  refine ev_iload_n dX1_init_22 rfl ?_
  refine ev_bipush (20 : Int32) dX1_init_23 (by decide) ?_
  refine ev_icmp_ge 41 dX1_init_25 (by decide) (fun c => absurd c (by decide)) (fun _ => ?_)
  refine ev_aload_n dX1_init_28 rfl ?_
  refine ev_getR 24 lf_X1_9 dX1_init_29 rfl rfl rfl ?_
  refine ev_iload_n dX1_init_32 rfl ?_
  refine ev_iconst (5 : Int32) dX1_init_33 (by decide) ?_
  refine ev_iastk (N := 20) 16 dX1_init_34 rfl rfl (by decide) ?_
  refine ev_iinc (17 : Int32) dX1_init_35 rfl (by decide) rfl rfl ?_
  refine ev_goto 22 dX1_init_38 (by decide) ?_
  refine ev_iload_n dX1_init_22 rfl ?_
  refine ev_bipush (20 : Int32) dX1_init_23 (by decide) ?_
  refine ev_icmp_ge 41 dX1_init_25 (by decide) (fun c => absurd c (by decide)) (fun _ => ?_)
  refine ev_aload_n dX1_init_28 rfl ?_
  refine ev_getR 24 lf_X1_9 dX1_init_29 rfl rfl rfl ?_
  refine ev_iload_n dX1_init_32 rfl ?_
  refine ev_iconst (5 : Int32) dX1_init_33 (by decide) ?_
  refine ev_iastk (N := 20) 17 dX1_init_34 rfl rfl (by decide) ?_
  refine ev_iinc (18 : Int32) dX1_init_35 rfl (by decide) rfl rfl ?_
  refine ev_goto 22 dX1_init_38 (by decide) ?_
  refine ev_iload_n dX1_init_22 rfl ?_
  refine ev_bipush (20 : Int32) dX1_init_23 (by decide) ?_
  refine ev_icmp_ge 41 dX1_init_25 (by decide) (fun c => absurd c (by decide)) (fun _ => ?_)
  refine ev_aload_n dX1_init_28 rfl ?_
  refine ev_getR 24 lf_X1_9 dX1_init_29 rfl rfl rfl ?_
  refine ev_iload_n dX1_init_32 rfl ?_
  refine ev_iconst (5 : Int32) dX1_init_33 (by decide) ?_
  refine ev_iastk (N := 20) 18 dX1_init_34 rfl rfl (by decide) ?_
  refine ev_iinc (19 : Int32) dX1_init_35 rfl (by decide) rfl rfl ?_
  refine ev_goto 22 dX1_init_38 (by decide) ?_
  refine ev_iload_n dX1_init_22 rfl ?_
  refine ev_bipush (20 : Int32) dX1_init_23 (by decide) ?_
  refine ev_icmp_ge 41 dX1_init_25 (by decide) (fun c => absurd c (by decide)) (fun _ => ?_)
  refine ev_aload_n dX1_init_28 rfl ?_
  refine ev_getR 24 lf_X1_9 dX1_init_29 rfl rfl rfl ?_
  refine ev_iload_n dX1_init_32 rfl ?_
  refine ev_iconst (5 : Int32) dX1_init_33 (by decide) ?_
  refine ev_iastk (N := 20) 19 dX1_init_34 rfl rfl (by decide) ?_
  refine ev_iinc (20 : Int32) dX1_init_35 rfl (by decide) rfl rfl ?_
  refine ev_goto 22 dX1_init_38 (by decide) ?_
  refine ev_iload_n dX1_init_22 rfl ?_
  refine ev_bipush (20 : Int32) dX1_init_23 (by decide) ?_
  refine ev_icmp_ge 41 dX1_init_25 (by decide) (fun _ => ?_) (fun c => absurd (by decide) c)
  exact ev_vret rfl dX1_init_41 ⟨rfl, rfl, rfl⟩
set_option maxRecDepth 100000 in
set_option maxHeartbeats 4000000 in
theorem wi_X4_init_28 : bv_Met yX4_init MX4_init bv_X0 1 29 30 [.ref 28] cr_26 cm_27 (fun r mr' mi' => r = none ∧ mr' = cr_28 ∧ mi' = cm_29) := by
  refine bv_Met.of (pn_X 4 (by decide)) rfl (fun _ => rfl) (Nat.le_of_ble_eq_true rfl) ?_
  refine ev_aload_n dX4_init_0 rfl ?_
  refine ev_objInit dX4_init_1 (List.mem_of_getElem? (i := 122) (by decide +kernel)) (List.mem_of_getElem? (i := 90) (by decide +kernel)) (List.mem_of_getElem? (i := 91) (by decide +kernel)) (by decide) (by decide) ?_
  refine ev_aload_n dX4_init_4 rfl ?_
  refine ev_bipush (50 : Int32) dX4_init_5 (by decide) ?_
  refine ev_newa (ty := .byte) (N := 50) dX4_init_7 rfl (by decide) rfl (List.mem_of_getElem? (i := 133) (by decide +kernel)) (by decide) (by decide) (by decide) (by decide) (by decide) (by decide) (fun _ => rfl) rfl rfl ?_
  refine ev_putRF lf_X4_9 dX4_init_9 rfl rfl rfl rfl rfl (by decide) ?_
  refine ev_aload_n dX4_init_12 rfl ?_
  refine ev_iconst (0 : Int32) dX4_init_13 (by decide) ?_
  refine ev_putI lf_X4_15 dX4_init_14 rfl rfl rfl rfl ?_
  exact ev_vret rfl dX4_init_17 ⟨rfl, rfl, rfl⟩
set_option maxRecDepth 100000 in
set_option maxHeartbeats 4000000 in
theorem wi_X4_init_30 : bv_Met yX4_init MX4_init bv_X0 1 31 32 [.ref 30] cr_30 cm_29 (fun r mr' mi' => r = none ∧ mr' = cr_31 ∧ mi' = cm_32) := by
  refine bv_Met.of (pn_X 4 (by decide)) rfl (fun _ => rfl) (Nat.le_of_ble_eq_true rfl) ?_
  refine ev_aload_n dX4_init_0 rfl ?_
  refine ev_objInit dX4_init_1 (List.mem_of_getElem? (i := 122) (by decide +kernel)) (List.mem_of_getElem? (i := 90) (by decide +kernel)) (List.mem_of_getElem? (i := 91) (by decide +kernel)) (by decide) (by decide) ?_
  refine ev_aload_n dX4_init_4 rfl ?_
  refine ev_bipush (50 : Int32) dX4_init_5 (by decide) ?_
  refine ev_newa (ty := .byte) (N := 50) dX4_init_7 rfl (by decide) rfl (List.mem_of_getElem? (i := 133) (by decide +kernel)) (by decide) (by decide) (by decide) (by decide) (by decide) (by decide) (fun _ => rfl) rfl rfl ?_
  refine ev_putRF lf_X4_9 dX4_init_9 rfl rfl rfl rfl rfl (by decide) ?_
  refine ev_aload_n dX4_init_12 rfl ?_
  refine ev_iconst (0 : Int32) dX4_init_13 (by decide) ?_
  refine ev_putI lf_X4_15 dX4_init_14 rfl rfl rfl rfl ?_
  exact ev_vret rfl dX4_init_17 ⟨rfl, rfl, rfl⟩
set_option maxRecDepth 100000 in
set_option maxHeartbeats 4000000 in
theorem wi_X4_init_32 : bv_Met yX4_init MX4_init bv_X0 1 33 34 [.ref 32] cr_33 cm_32 (fun r mr' mi' => r = none ∧ mr' = cr_34 ∧ mi' = cm_35) := by
  refine bv_Met.of (pn_X 4 (by decide)) rfl (fun _ => rfl) (Nat.le_of_ble_eq_true rfl) ?_
  refine ev_aload_n dX4_init_0 rfl ?_
  refine ev_objInit dX4_init_1 (List.mem_of_getElem? (i := 122) (by decide +kernel)) (List.mem_of_getElem? (i := 90) (by decide +kernel)) (List.mem_of_getElem? (i := 91) (by decide +kernel)) (by decide) (by decide) ?_
  refine ev_aload_n dX4_init_4 rfl ?_
  refine ev_bipush (50 : Int32) dX4_init_5 (by decide) ?_
  refine ev_newa (ty := .byte) (N := 50) dX4_init_7 rfl (by decide) rfl (List.mem_of_getElem? (i := 133) (by decide +kernel)) (by decide) (by decide) (by decide) (by decide) (by decide) (by decide) (fun _ => rfl) rfl rfl ?_
  refine ev_putRF lf_X4_9 dX4_init_9 rfl rfl rfl rfl rfl (by decide) ?_
  refine ev_aload_n dX4_init_12 rfl ?_
  refine ev_iconst (0 : Int32) dX4_init_13 (by decide) ?_
  refine ev_putI lf_X4_15 dX4_init_14 rfl rfl rfl rfl ?_
  exact ev_vret rfl dX4_init_17 ⟨rfl, rfl, rfl⟩
set_option maxRecDepth 100000 in
set_option maxHeartbeats 4000000 in
theorem wi_X0_init_35 : bv_Met yX0_init MX0_init bv_X0 1 36 36 [.ref 35] cr_36 cm_37 (fun r mr' mi' => r = none ∧ mr' = cr_36 ∧ mi' = cm_37) := by
  refine bv_Met.of (pn_X 0 (by decide)) rfl (fun _ => rfl) (Nat.le_of_ble_eq_true rfl) ?_
  refine ev_aload_n dX0_init_0 rfl ?_
  refine ev_objInit dX0_init_1 (List.mem_of_getElem? (i := 138) (by decide +kernel)) (List.mem_of_getElem? (i := 90) (by decide +kernel)) (List.mem_of_getElem? (i := 91) (by decide +kernel)) (by decide) (by decide) ?_
  exact ev_vret rfl dX0_init_4 ⟨rfl, rfl, rfl⟩
set_option maxRecDepth 100000 in
set_option maxHeartbeats 4000000 in
theorem wi_X0_init_36 : bv_Met yX0_init MX0_init bv_X0 1 37 37 [.ref 36] cr_38 cm_37 (fun r mr' mi' => r = none ∧ mr' = cr_38 ∧ mi' = cm_37) := by
  refine bv_Met.of (pn_X 0 (by decide)) rfl (fun _ => rfl) (Nat.le_of_ble_eq_true rfl) ?_
  refine ev_aload_n dX0_init_0 rfl ?_
  refine ev_objInit dX0_init_1 (List.mem_of_getElem? (i := 138) (by decide +kernel)) (List.mem_of_getElem? (i := 90) (by decide +kernel)) (List.mem_of_getElem? (i := 91) (by decide +kernel)) (by decide) (by decide) ?_
  exact ev_vret rfl dX0_init_4 ⟨rfl, rfl, rfl⟩
set_option maxRecDepth 100000 in
set_option maxHeartbeats 4000000 in
theorem wi_X0_init_37 : bv_Met yX0_init MX0_init bv_X0 1 38 38 [.ref 37] cr_39 cm_37 (fun r mr' mi' => r = none ∧ mr' = cr_39 ∧ mi' = cm_37) := by
  refine bv_Met.of (pn_X 0 (by decide)) rfl (fun _ => rfl) (Nat.le_of_ble_eq_true rfl) ?_
  refine ev_aload_n dX0_init_0 rfl ?_
  refine ev_objInit dX0_init_1 (List.mem_of_getElem? (i := 138) (by decide +kernel)) (List.mem_of_getElem? (i := 90) (by decide +kernel)) (List.mem_of_getElem? (i := 91) (by decide +kernel)) (by decide) (by decide) ?_
  exact ev_vret rfl dX0_init_4 ⟨rfl, rfl, rfl⟩
set_option maxRecDepth 100000 in
set_option maxHeartbeats 4000000 in
theorem wi_X0_init_38 : bv_Met yX0_init MX0_init bv_X0 1 39 39 [.ref 38] cr_40 cm_37 (fun r mr' mi' => r = none ∧ mr' = cr_40 ∧ mi' = cm_37) := by
  refine bv_Met.of (pn_X 0 (by decide)) rfl (fun _ => rfl) (Nat.le_of_ble_eq_true rfl) ?_
  refine ev_aload_n dX0_init_0 rfl ?_
  refine ev_objInit dX0_init_1 (List.mem_of_getElem? (i := 138) (by decide +kernel)) (List.mem_of_getElem? (i := 90) (by decide +kernel)) (List.mem_of_getElem? (i := 91) (by decide +kernel)) (by decide) (by decide) ?_
  exact ev_vret rfl dX0_init_4 ⟨rfl, rfl, rfl⟩
set_option maxRecDepth 100000 in
set_option maxHeartbeats 4000000 in
theorem wi_X0_init_39 : bv_Met yX0_init MX0_init bv_X0 1 40 40 [.ref 39] cr_41 cm_37 (fun r mr' mi' => r = none ∧ mr' = cr_41 ∧ mi' = cm_37) := by
  refine bv_Met.of (pn_X 0 (by decide)) rfl (fun _ => rfl) (Nat.le_of_ble_eq_true rfl) ?_
  refine ev_aload_n dX0_init_0 rfl ?_
  refine ev_objInit dX0_init_1 (List.mem_of_getElem? (i := 138) (by decide +kernel)) (List.mem_of_getElem? (i := 90) (by decide +kernel)) (List.mem_of_getElem? (i := 91) (by decide +kernel)) (by decide) (by decide) ?_
  exact ev_vret rfl dX0_init_4 ⟨rfl, rfl, rfl⟩
set_option maxRecDepth 100000 in
set_option maxHeartbeats 4000000 in
theorem wi_X0_init_40 : bv_Met yX0_init MX0_init bv_X0 1 41 41 [.ref 40] cr_42 cm_37 (fun r mr' mi' => r = none ∧ mr' = cr_42 ∧ mi' = cm_37) := by
  refine bv_Met.of (pn_X 0 (by decide)) rfl (fun _ => rfl) (Nat.le_of_ble_eq_true rfl) ?_
  refine ev_aload_n dX0_init_0 rfl ?_
  refine ev_objInit dX0_init_1 (List.mem_of_getElem? (i := 138) (by decide +kernel)) (List.mem_of_getElem? (i := 90) (by decide +kernel)) (List.mem_of_getElem? (i := 91) (by decide +kernel)) (by decide) (by decide) ?_
  exact ev_vret rfl dX0_init_4 ⟨rfl, rfl, rfl⟩
set_option maxRecDepth 100000 in
set_option maxHeartbeats 4000000 in
theorem wi_X0_init_41 : bv_Met yX0_init MX0_init bv_X0 1 42 42 [.ref 41] cr_43 cm_37 (fun r mr' mi' => r = none ∧ mr' = cr_43 ∧ mi' = cm_37) := by
  refine bv_Met.of (pn_X 0 (by decide)) rfl (fun _ => rfl) (Nat.le_of_ble_eq_true rfl) ?_
  refine ev_aload_n dX0_init_0 rfl ?_
  refine ev_objInit dX0_init_1 (List.mem_of_getElem? (i := 138) (by decide +kernel)) (List.mem_of_getElem? (i := 90) (by decide +kernel)) (List.mem_of_getElem? (i := 91) (by decide +kernel)) (by decide) (by decide) ?_
  exact ev_vret rfl dX0_init_4 ⟨rfl, rfl, rfl⟩
set_option maxRecDepth 100000 in
set_option maxHeartbeats 4000000 in
theorem wi_X0_init_42 : bv_Met yX0_init MX0_init bv_X0 1 43 43 [.ref 42] cr_44 cm_37 (fun r mr' mi' => r = none ∧ mr' = cr_44 ∧ mi' = cm_37) := by
  refine bv_Met.of (pn_X 0 (by decide)) rfl (fun _ => rfl) (Nat.le_of_ble_eq_true rfl) ?_
  refine ev_aload_n dX0_init_0 rfl ?_
  refine ev_objInit dX0_init_1 (List.mem_of_getElem? (i := 138) (by decide +kernel)) (List.mem_of_getElem? (i := 90) (by decide +kernel)) (List.mem_of_getElem? (i := 91) (by decide +kernel)) (by decide) (by decide) ?_
  exact ev_vret rfl dX0_init_4 ⟨rfl, rfl, rfl⟩
set_option maxRecDepth 100000 in
set_option maxHeartbeats 4000000 in
theorem wi_X5_init_22 : bv_Met yX5_init MX5_init bv_X0 2 23 43 [.ref 22] cr_23 cm_14 (fun r mr' mi' => r = none ∧ mr' = cr_45 ∧ mi' = cm_37) := by
  refine bv_Met.of (pn_X 5 (by decide)) rfl (fun _ => rfl) (Nat.le_of_ble_eq_true rfl) ?_
  refine ev_aload_n dX5_init_0 rfl ?_
  refine ev_objInit dX5_init_1 (List.mem_of_getElem? (i := 97) (by decide +kernel)) (List.mem_of_getElem? (i := 90) (by decide +kernel)) (List.mem_of_getElem? (i := 91) (by decide +kernel)) (by decide) (by decide) ?_
  refine ev_aload_n dX5_init_4 rfl ?_
  refine ev_new (ci := 1) dX5_init_5 rfl (by decide) (List.mem_of_getElem? (i := 98) (by decide +kernel)) (List.mem_of_getElem? (i := 99) (by decide +kernel)) (List.mem_of_getElem? (i := 74) (by decide +kernel)) (by decide) (by decide) (by decide) (fun _ => rfl) (fun _ => rfl) rfl rfl ?_
  refine ev_dup dX5_init_8 rfl ?_
  refine ev_callI [] lk_X5_11 dX5_init_9 rfl rfl (fun _ _ q => q) wi_X1_init_23 (by decide) (by decide) (by decide) (by decide) (by decide) (Or.inr ⟨rfl, rfl⟩) (fun r mr' mi' hq => ?_)
  obtain ⟨rfl, rfl, rfl⟩ := hq
  refine ev_putRF lf_X5_12 dX5_init_12 rfl rfl rfl rfl rfl (by decide) ?_
  refine ev_aload_n dX5_init_15 rfl ?_
  refine ev_iconst (5 : Int32) dX5_init_16 (by decide) ?_
  refine ev_newa (ty := .int) (N := 5) dX5_init_17 rfl (by decide) rfl (List.mem_of_getElem? (i := 114) (by decide +kernel)) (by decide) (by decide) (by decide) (by decide) (by decide) (by decide) (fun _ => rfl) rfl rfl ?_
  refine ev_putRF lf_X5_18 dX5_init_19 rfl rfl rfl rfl rfl (by decide) ?_
  refine ev_aload_n dX5_init_22 rfl ?_
  refine ev_iconst (0 : Int32) dX5_init_23 (by decide) ?_
  refine ev_putI lf_X5_22 dX5_init_24 rfl rfl rfl rfl ?_
  refine ev_aload_n dX5_init_27 rfl ?_
  refine ev_bipush (8 : Int32) dX5_init_28 (by decide) ?_
  refine ev_newq (C := RX0) (N := 8) dX5_init_30 rfl (List.mem_of_getElem? (i := 115) (by decide +kernel)) (List.mem_of_getElem? (i := 116) (by decide +kernel)) (by decide) (by decide) (by decide) (by decide) (by decide) (by decide) (fun _ => rfl) rfl rfl ?_
  refine ev_putRF lf_X5_28 dX5_init_33 rfl rfl rfl rfl rfl (by decide) ?_
  refine ev_aload_n dX5_init_36 rfl ?_
  refine ev_iconst (0 : Int32) dX5_init_37 (by decide) ?_
  refine ev_putI lf_X5_32 dX5_init_38 rfl rfl rfl rfl ?_
  refine ev_aload_n dX5_init_41 rfl ?_
  refine ev_iconst (0 : Int32) dX5_init_42 (by decide) ?_
  refine ev_putI lf_X5_35 dX5_init_43 rfl rfl rfl rfl ?_
  refine ev_aload_n dX5_init_46 rfl ?_
  refine ev_iconst (1 : Int32) dX5_init_47 (by decide) ?_
  refine ev_putI lf_X5_38 dX5_init_48 rfl rfl rfl rfl ?_
  refine ev_aload_n dX5_init_51 rfl ?_
  refine ev_new (ci := 4) dX5_init_52 rfl (by decide) (List.mem_of_getElem? (i := 117) (by decide +kernel)) (List.mem_of_getElem? (i := 118) (by decide +kernel)) (List.mem_of_getElem? (i := 75) (by decide +kernel)) (by decide) (by decide) (by decide) (fun _ => rfl) (fun _ => rfl) rfl rfl ?_
  refine ev_dup dX5_init_55 rfl ?_
  refine ev_callIN [] lk_X5_43 dX5_init_56 rfl rfl (fun _ _ q => q) wi_X4_init_28 (by decide) (by decide) (by decide) (by decide) (by decide) (Or.inr ⟨rfl, rfl⟩) (fun r mr' mi' hq => ?_)
  obtain ⟨rfl, rfl, rfl⟩ := hq
  refine ev_putRF lf_X5_44 dX5_init_59 rfl rfl rfl rfl rfl (by decide) ?_
  refine ev_aload_n dX5_init_62 rfl ?_
  refine ev_new (ci := 4) dX5_init_63 rfl (by decide) (List.mem_of_getElem? (i := 117) (by decide +kernel)) (List.mem_of_getElem? (i := 118) (by decide +kernel)) (List.mem_of_getElem? (i := 75) (by decide +kernel)) (by decide) (by decide) (by decide) (fun _ => rfl) (fun _ => rfl) rfl rfl ?_
  refine ev_dup dX5_init_66 rfl ?_
  refine ev_callIN [] lk_X5_43 dX5_init_67 rfl rfl (fun _ _ q => q) wi_X4_init_30 (by decide) (by decide) (by decide) (by decide) (by decide) (Or.inr ⟨rfl, rfl⟩) (fun r mr' mi' hq => ?_)
  obtain ⟨rfl, rfl, rfl⟩ := hq
  refine ev_putRF lf_X5_48 dX5_init_70 rfl rfl rfl rfl rfl (by decide) ?_
  refine ev_aload_n dX5_init_73 rfl ?_
  refine ev_new (ci := 4) dX5_init_74 rfl (by decide) (List.mem_of_getElem? (i := 117) (by decide +kernel)) (List.mem_of_getElem? (i := 118) (by decide +kernel)) (List.mem_of_getElem? (i := 75) (by decide +kernel)) (by decide) (by decide) (by decide) (fun _ => rfl) (fun _ => rfl) rfl rfl ?_
  refine ev_dup dX5_init_77 rfl ?_
  refine ev_callIN [] lk_X5_43 dX5_init_78 rfl rfl (fun _ _ q => q) wi_X4_init_32 (by decide) (by decide) (by decide) (by decide) (by decide) (Or.inr ⟨rfl, rfl⟩) (fun r mr' mi' hq => ?_)
  obtain ⟨rfl, rfl, rfl⟩ := hq
  refine ev_putRF lf_X5_51 dX5_init_81 rfl rfl rfl rfl rfl (by decide) ?_
  refine ev_aload_n dX5_init_84 rfl ?_
  refine ev_bipush (20 : Int32) dX5_init_85 (by decide) ?_
  refine ev_newa (ty := .int) (N := 20) dX5_init_87 rfl (by decide) rfl (List.mem_of_getElem? (i := 114) (by decide +kernel)) (by decide) (by decide) (by decide) (by decide) (by decide) (by decide) (fun _ => rfl) rfl rfl ?_
  refine ev_putRF lf_X5_54 dX5_init_89 rfl rfl rfl rfl rfl (by decide) ?_
  refine ev_aload_n dX5_init_92 rfl ?_
  refine ev_iconst (0 : Int32) dX5_init_93 (by decide) ?_
  refine ev_putI lf_X5_57 dX5_init_94 rfl rfl rfl rfl ?_
  refine ev_iconst (0 : Int32) dX5_init_97 (by decide) ?_
  refine ev_istore_n dX5_init_98 rfl rfl ?_
  refine ev_iload_n dX5_init_99 rfl ?_
  refine ev_bipush (8 : Int32) dX5_init_100 (by decide) ?_
  refine ev_icmp_ge 124 dX5_init_102 (by decide) (fun c => absurd c (by decide)) (fun _ => ?_)
  refine ev_aload_n dX5_init_105 rfl ?_
  refine ev_getR 27 lf_X5_28 dX5_init_106 rfl rfl rfl ?_
  refine ev_iload_n dX5_init_109 rfl ?_
  refine ev_new (ci := 0) dX5_init_110 rfl (by decide) (List.mem_of_getElem? (i := 115) (by decide +kernel)) (List.mem_of_getElem? (i := 134) (by decide +kernel)) (List.mem_of_getElem? (i := 76) (by decide +kernel)) (by decide) (by decide) (by decide) (fun _ => rfl) (fun _ => rfl) rfl rfl ?_
  refine ev_dup dX5_init_113 rfl ?_
  refine ev_callIN [] lk_X5_60 dX5_init_114 rfl rfl (fun _ _ q => q) wi_X0_init_35 (by decide) (by decide) (by decide) (by decide) (by decide) (Or.inr ⟨rfl, rfl⟩) (fun r mr' mi' hq => ?_)
  obtain ⟨rfl, rfl, rfl⟩ := hq
  refine ev_aastk (ci := 0) (N := 8) 0 dX5_init_117 (by decide) rfl (by decide) rfl rfl (by decide) ?_
  refine ev_iinc (1 : Int32) dX5_init_118 rfl (by decide) rfl rfl ?_
  refine ev_goto 99 dX5_init_121 (by decide) ?_
  refine ev_iload_n dX5_init_99 rfl ?_
  refine ev_bipush (8 : Int32) dX5_init_100 (by decide) ?_
  refine ev_icmp_ge 124 dX5_init_102 (by decide) (fun c => absurd c (by decide)) (fun _ => ?_)
  refine ev_aload_n dX5_init_105 rfl ?_
  refine ev_getR 27 lf_X5_28 dX5_init_106 rfl rfl rfl ?_
  refine ev_iload_n dX5_init_109 rfl ?_
  refine ev_new (ci := 0) dX5_init_110 rfl (by decide) (List.mem_of_getElem? (i := 115) (by decide +kernel)) (List.mem_of_getElem? (i := 134) (by decide +kernel)) (List.mem_of_getElem? (i := 76) (by decide +kernel)) (by decide) (by decide) (by decide) (fun _ => rfl) (fun _ => rfl) rfl rfl ?_
  refine ev_dup dX5_init_113 rfl ?_
  refine ev_callIN [] lk_X5_60 dX5_init_114 rfl rfl (fun _ _ q => q) wi_X0_init_36 (by decide) (by decide) (by decide) (by decide) (by decide) (Or.inr ⟨rfl, rfl⟩) (fun r mr' mi' hq => ?_)
  obtain ⟨rfl, rfl, rfl⟩ := hq
  refine ev_aastk (ci := 0) (N := 8) 1 dX5_init_117 (by decide) rfl (by decide) rfl rfl (by decide) ?_
  refine ev_iinc (2 : Int32) dX5_init_118 rfl (by decide) rfl rfl ?_
  refine ev_goto 99 dX5_init_121 (by decide) ?_
  refine ev_iload_n dX5_init_99 rfl ?_
  refine ev_bipush (8 : Int32) dX5_init_100 (by decide) ?_
  refine ev_icmp_ge 124 dX5_init_102 (by decide) (fun c => absurd c (by decide)) (fun _ => ?_)
  refine ev_aload_n dX5_init_105 rfl ?_
  refine ev_getR 27 lf_X5_28 dX5_init_106 rfl rfl rfl ?_
  refine ev_iload_n dX5_init_109 rfl ?_
  refine ev_new (ci := 0) dX5_init_110 rfl (by decide) (List.mem_of_getElem? (i := 115) (by decide +kernel)) (List.mem_of_getElem? (i := 134) (by decide +kernel)) (List.mem_of_getElem? (i := 76) (by decide +kernel)) (by decide) (by decide) (by decide) (fun _ => rfl) (fun _ => rfl) rfl rfl ?_
  refine ev_dup dX5_init_113 rfl ?_
  refine ev_callIN [] lk_X5_60 dX5_init_114 rfl rfl (fun _ _ q => q) wi_X0_init_37 (by decide) (by decide) (by decide) (by decide) (by decide) (Or.inr ⟨rfl, rfl⟩) (fun r mr' mi' hq => ?_)
  obtain ⟨rfl, rfl, rfl⟩ := hq
  refine ev_aastk (ci := 0) (N := 8) 2 dX5_init_117 (by decide) rfl (by decide) rfl rfl (by decide) ?_
  refine ev_iinc (3 : Int32) dX5_init_118 rfl (by decide) rfl rfl ?_
  refine ev_goto 99 dX5_init_121 (by decide) ?_
  refine ev_iload_n dX5_init_99 rfl ?_
  refine ev_bipush (8 : Int32) dX5_init_100 (by decide) ?_
  refine ev_icmp_ge 124 dX5_init_102 (by decide) (fun c => absurd c (by decide)) (fun _ => ?_)
  refine ev_aload_n dX5_init_105 rfl ?_
  refine ev_getR 27 lf_X5_28 dX5_init_106 rfl rfl rfl ?_
  refine ev_iload_n dX5_init_109 rfl ?_
  refine ev_new (ci := 0) dX5_init_110 rfl (by decide) (List.mem_of_getElem? (i := 115) (by decide +kernel)) (List.mem_of_getElem? (i := 134) (by decide +kernel)) (List.mem_of_getElem? (i := 76) (by decide +kernel)) (by decide) (by decide) (by decide) (fun _ => rfl) (fun _ => rfl) rfl rfl ?_
  refine ev_dup dX5_init_113 rfl ?_
  refine ev_callIN [] lk_X5_60 dX5_init_114 rfl rfl (fun _ _ q => q) wi_X0_init_38 (by decide) (by decide) (by decide) (by decide) (by decide) (Or.inr ⟨rfl, rfl⟩) (fun r mr' mi' hq => ?_)
  obtain ⟨rfl, rfl, rfl⟩ := hq
  refine ev_aastk (ci := 0) (N := 8) 3 dX5_init_117 (by decide) rfl (by decide) rfl rfl (by decide) ?_
  refine ev_iinc (4 : Int32) dX5_init_118 rfl (by decide) rfl rfl ?_
  refine ev_goto 99 dX5_init_121 (by decide) ?_
  refine ev_iload_n dX5_init_99 rfl ?_
  refine ev_bipush (8 : Int32) dX5_init_100 (by decide) ?_
  refine ev_icmp_ge 124 dX5_init_102 (by decide) (fun c => absurd c (by decide)) (fun _ => ?_)
  refine ev_aload_n dX5_init_105 rfl ?_
  refine ev_getR 27 lf_X5_28 dX5_init_106 rfl rfl rfl ?_
  refine ev_iload_n dX5_init_109 rfl ?_
  refine ev_new (ci := 0) dX5_init_110 rfl (by decide) (List.mem_of_getElem? (i := 115) (by decide +kernel)) (List.mem_of_getElem? (i := 134) (by decide +kernel)) (List.mem_of_getElem? (i := 76) (by decide +kernel)) (by decide) (by decide) (by decide) (fun _ => rfl) (fun _ => rfl) rfl rfl ?_
  refine ev_dup dX5_init_113 rfl ?_
  refine ev_callIN [] lk_X5_60 dX5_init_114 rfl rfl (fun _ _ q => q) wi_X0_init_39 (by decide) (by decide) (by decide) (by decide) (by decide) (Or.inr ⟨rfl, rfl⟩) (fun r mr' mi' hq => ?_)
  obtain ⟨rfl, rfl, rfl⟩ := hq
  refine ev_aastk (ci := 0) (N := 8) 4 dX5_init_117 (by decide) rfl (by decide) rfl rfl (by decide) ?_
  refine ev_iinc (5 : Int32) dX5_init_118 rfl (by decide) rfl rfl ?_
  refine ev_goto 99 dX5_init_121 (by decide) ?_
  refine ev_iload_n dX5_init_99 rfl ?_
  refine ev_bipush (8 : Int32) dX5_init_100 (by decide) ?_
  refine ev_icmp_ge 124 dX5_init_102 (by decide) (fun c => absurd c (by decide)) (fun _ => ?_)
  refine ev_aload_n dX5_init_105 rfl ?_
  refine ev_getR 27 lf_X5_28 dX5_init_106 rfl rfl rfl ?_
  refine ev_iload_n dX5_init_109 rfl ?_
  refine ev_new (ci := 0) dX5_init_110 rfl (by decide) (List.mem_of_getElem? (i := 115) (by decide +kernel)) (List.mem_of_getElem? (i := 134) (by decide +kernel)) (List.mem_of_getElem? (i := 76) (by decide +kernel)) (by decide) (by decide) (by decide) (fun _ => rfl) (fun _ => rfl) rfl rfl ?_
  refine ev_dup dX5_init_113 rfl ?_
  refine ev_callIN [] lk_X5_60 dX5_init_114 rfl rfl (fun _ _ q => q) wi_X0_init_40 (by decide) (by decide) (by decide) (by decide) (by decide) (Or.inr ⟨rfl, rfl⟩) (fun r mr' mi' hq => ?_)
  obtain ⟨rfl, rfl, rfl⟩ := hq
  refine ev_aastk (ci := 0) (N := 8) 5 dX5_init_117 (by decide) rfl (by decide) rfl rfl (by decide) ?_
  refine ev_iinc (6 : Int32) dX5_init_118 rfl (by decide) rfl rfl ?_
  refine ev_goto 99 dX5_init_121 (by decide) ?_
  refine ev_iload_n dX5_init_99 rfl ?_
  refine ev_bipush (8 : Int32) dX5_init_100 (by decide) ?_
  refine ev_icmp_ge 124 dX5_init_102 (by decide) (fun c => absurd c (by decide)) (fun _ => ?_)
  refine ev_aload_n dX5_init_105 rfl ?_
  refine ev_getR 27 lf_X5_28 dX5_init_106 rfl rfl rfl ?_
  refine ev_iload_n dX5_init_109 rfl ?_
  refine ev_new (ci := 0) dX5_init_110 rfl (by decide) (List.mem_of_getElem? (i := 115) (by decide +kernel)) (List.mem_of_getElem? (i := 134) (by decide +kernel)) (List.mem_of_getElem? (i := 76) (by decide +kernel)) (by decide) (by decide) (by decide) (fun _ => rfl) (fun _ => rfl) rfl rfl ?_
  refine ev_dup dX5_init_113 rfl ?_
  refine ev_callIN [] lk_X5_60 dX5_init_114 rfl rfl (fun _ _ q => q) wi_X0_init_41 (by decide) (by decide) (by decide) (by decide) (by decide) (Or.inr ⟨rfl, rfl⟩) (fun r mr' mi' hq => ?_)
  obtain ⟨rfl, rfl, rfl⟩ := hq
  refine ev_aastk (ci := 0) (N := 8) 6 dX5_init_117 (by decide) rfl (by decide) rfl rfl (by decide) ?_
  refine ev_iinc (7 : Int32) dX5_init_118 rfl (by decide) rfl rfl ?_
  refine ev_goto 99 dX5_init_121 (by decide) ?_
  refine ev_iload_n dX5_init_99 rfl ?_
  refine ev_bipush (8 : Int32) dX5_init_100 (by decide) ?_
  refine ev_icmp_ge 124 dX5_init_102 (by decide) (fun c => absurd c (by decide)) (fun _ => ?_)
  refine ev_aload_n dX5_init_105 rfl ?_
  refine ev_getR 27 lf_X5_28 dX5_init_106 rfl rfl rfl ?_
  refine ev_iload_n dX5_init_109 rfl ?_
  refine ev_new (ci := 0) dX5_init_110 rfl (by decide) (List.mem_of_getElem? (i := 115) (by decide +kernel)) (List.mem_of_getElem? (i := 134) (by decide +kernel)) (List.mem_of_getElem? (i := 76) (by decide +kernel)) (by decide) (by decide) (by decide) (fun _ => rfl) (fun _ => rfl) rfl rfl ?_
  refine ev_dup dX5_init_113 rfl ?_
  refine ev_callIN [] lk_X5_60 dX5_init_114 rfl rfl (fun _ _ q => q) wi_X0_init_42 (by decide) (by decide) (by decide) (by decide) (by decide) (Or.inr ⟨rfl, rfl⟩) (fun r mr' mi' hq => ?_)
  obtain ⟨rfl, rfl, rfl⟩ := hq
  refine ev_aastk (ci := 0) (N := 8) 7 dX5_init_117 (by decide) rfl (by decide) rfl rfl (by decide) ?_
  refine ev_iinc (8 : Int32) dX5_init_118 rfl (by decide) rfl rfl ?_
  refine ev_goto 99 dX5_init_121 (by decide) ?_
  refine ev_iload_n dX5_init_99 rfl ?_
  refine ev_bipush (8 : Int32) dX5_init_100 (by decide) ?_
  refine ev_icmp_ge 124 dX5_init_102 (by decide) (fun _ => ?_) (fun c => absurd (by decide) c)
  exact ev_vret rfl dX5_init_124 ⟨rfl, rfl, rfl⟩
set_option maxRecDepth 100000 in
set_option maxHeartbeats 4000000 in
theorem wi_X4_init_44 : bv_Met yX4_init MX4_init bv_X0 1 45 46 [.ref 44] cr_46 cm_47 (fun r mr' mi' => r = none ∧ mr' = cr_48 ∧ mi' = cm_49) := by
  refine bv_Met.of (pn_X 4 (by decide)) rfl (fun _ => rfl) (Nat.le_of_ble_eq_true rfl) ?_
  refine ev_aload_n dX4_init_0 rfl ?_
  refine ev_objInit dX4_init_1 (List.mem_of_getElem? (i := 122) (by decide +kernel)) (List.mem_of_getElem? (i := 90) (by decide +kernel)) (List.mem_of_getElem? (i := 91) (by decide +kernel)) (by decide) (by decide) ?_
  refine ev_aload_n dX4_init_4 rfl ?_
  refine ev_bipush (50 : Int32) dX4_init_5 (by decide) ?_
  refine ev_newa (ty := .byte) (N := 50) dX4_init_7 rfl (by decide) rfl (List.mem_of_getElem? (i := 133) (by decide +kernel)) (by decide) (by decide) (by decide) (by decide) (by decide) (by decide) (fun _ => rfl) rfl rfl ?_
  refine ev_putRF lf_X4_9 dX4_init_9 rfl rfl rfl rfl rfl (by decide) ?_
  refine ev_aload_n dX4_init_12 rfl ?_
  refine ev_iconst (0 : Int32) dX4_init_13 (by decide) ?_
  refine ev_putI lf_X4_15 dX4_init_14 rfl rfl rfl rfl ?_
  exact ev_vret rfl dX4_init_17 ⟨rfl, rfl, rfl⟩
set_option maxRecDepth 100000 in
set_option maxHeartbeats 4000000 in
theorem wi_X2_init_43 : bv_Met yX2_init MX2_init bv_X0 2 44 47 [.ref 43] cr_46 cm_47 (fun r mr' mi' => r = none ∧ mr' = cr_50 ∧ mi' = cm_51) := by
  refine bv_Met.of (pn_X 2 (by decide)) rfl (fun _ => rfl) (Nat.le_of_ble_eq_true rfl) ?_
  refine ev_aload_n dX2_init_0 rfl ?_
  refine ev_objInit dX2_init_1 (List.mem_of_getElem? (i := 217) (by decide +kernel)) (List.mem_of_getElem? (i := 90) (by decide +kernel)) (List.mem_of_getElem? (i := 91) (by decide +kernel)) (by decide) (by decide) ?_
  refine ev_aload_n dX2_init_4 rfl ?_
  refine ev_new (ci := 4) dX2_init_5 rfl (by decide) (List.mem_of_getElem? (i := 218) (by decide +kernel)) (List.mem_of_getElem? (i := 118) (by decide +kernel)) (List.mem_of_getElem? (i := 75) (by decide +kernel)) (by decide) (by decide) (by decide) (fun _ => rfl) (fun _ => rfl) rfl rfl ?_
  refine ev_dup dX2_init_8 rfl ?_
  refine ev_callIN [] lk_X2_11 dX2_init_9 rfl rfl (fun _ _ q => q) wi_X4_init_44 (by decide) (by decide) (by decide) (by decide) (by decide) (Or.inr ⟨rfl, rfl⟩) (fun r mr' mi' hq => ?_)
  obtain ⟨rfl, rfl, rfl⟩ := hq
  refine ev_putR lf_X2_12 dX2_init_12 rfl rfl rfl (by decide) ?_
  refine ev_aload_n dX2_init_15 rfl ?_
  refine ev_iconst (0 : Int32) dX2_init_16 (by decide) ?_
  refine ev_putI lf_X2_18 dX2_init_17 rfl rfl rfl rfl ?_
  refine ev_aload_n dX2_init_20 rfl ?_
  refine ev_iconst (3 : Int32) dX2_init_21 (by decide) ?_
  refine ev_newa (ty := .int) (N := 3) dX2_init_22 rfl (by decide) rfl (List.mem_of_getElem? (i := 114) (by decide +kernel)) (by decide) (by decide) (by decide) (by decide) (by decide) (by decide) (fun _ => rfl) rfl rfl ?_
  refine ev_putRF lf_X2_22 dX2_init_24 rfl rfl rfl rfl rfl (by decide) ?_
  refine ev_aload_n dX2_init_27 rfl ?_
  refine ev_iconst (0 : Int32) dX2_init_28 (by decide) ?_
  refine ev_putI lf_X2_26 dX2_init_29 rfl rfl rfl rfl ?_
  refine ev_aload_n dX2_init_32 rfl ?_
  refine ev_iconst (-1 : Int32) dX2_init_33 (by decide) ?_
  refine ev_putI lf_X2_29 dX2_init_34 rfl rfl rfl rfl ?_
  refine ev_aload_n dX2_init_37 rfl ?_
  refine ev_iconst (-1 : Int32) dX2_init_38 (by decide) ?_
  refine ev_putI lf_X2_32 dX2_init_39 rfl rfl rfl rfl ?_
  exact ev_vret rfl dX2_init_42 ⟨rfl, rfl, rfl⟩
set_option maxRecDepth 100000 in
set_option maxHeartbeats 4000000 in
theorem wi_X6_init_47 : bv_Met yX6_init MX6_init bv_X0 1 48 49 [.ref 47] cr_52 cm_51 (fun r mr' mi' => r = none ∧ mr' = cr_53 ∧ mi' = cm_54) := by
  refine bv_Met.of (pn_X 6 (by decide)) rfl (fun _ => rfl) (Nat.le_of_ble_eq_true rfl) ?_
  refine ev_aload_n dX6_init_0 rfl ?_
  refine ev_objInit dX6_init_1 (List.mem_of_getElem? (i := 244) (by decide +kernel)) (List.mem_of_getElem? (i := 90) (by decide +kernel)) (List.mem_of_getElem? (i := 91) (by decide +kernel)) (by decide) (by decide) ?_
  refine ev_aload_n dX6_init_4 rfl ?_
  refine ev_bipush (40 : Int32) dX6_init_5 (by decide) ?_
  refine ev_newa (ty := .int) (N := 40) dX6_init_7 rfl (by decide) rfl (List.mem_of_getElem? (i := 114) (by decide +kernel)) (by decide) (by decide) (by decide) (by decide) (by decide) (by decide) (fun _ => rfl) rfl rfl ?_
  refine ev_putRF lf_X6_9 dX6_init_9 rfl rfl rfl rfl rfl (by decide) ?_
  refine ev_aload_n dX6_init_12 rfl ?_
  refine ev_iconst (0 : Int32) dX6_init_13 (by decide) ?_
  refine ev_putI lf_X6_15 dX6_init_14 rfl rfl rfl rfl ?_
  refine ev_aload_n dX6_init_17 rfl ?_
  refine ev_iconst (0 : Int32) dX6_init_18 (by decide) ?_
  refine ev_putI lf_X6_19 dX6_init_19 rfl rfl rfl rfl ?_
  refine ev_aload_n dX6_init_22 rfl ?_
  refine ev_iconst (0 : Int32) dX6_init_23 (by decide) ?_
  refine ev_putI lf_X6_22 dX6_init_24 rfl rfl rfl rfl ?_
  refine ev_aload_n dX6_init_27 rfl ?_
  refine ev_iconst (0 : Int32) dX6_init_28 (by decide) ?_
  refine ev_putI lf_X6_25 dX6_init_29 rfl rfl rfl rfl ?_
  exact ev_vret rfl dX6_init_32 ⟨rfl, rfl, rfl⟩
set_option maxRecDepth 100000 in
set_option maxHeartbeats 4000000 in
theorem wi_X3_init_53 : bv_Met yX3_init MX3_init bv_X0 1 54 55 [.ref 53] cr_55 cm_54 (fun r mr' mi' => r = none ∧ mr' = cr_56 ∧ mi' = cm_57) := by
  refine bv_Met.of (pn_X 3 (by decide)) rfl (fun _ => rfl) (Nat.le_of_ble_eq_true rfl) ?_
  refine ev_aload_n dX3_init_0 rfl ?_
  refine ev_objInit dX3_init_1 (List.mem_of_getElem? (i := 269) (by decide +kernel)) (List.mem_of_getElem? (i := 90) (by decide +kernel)) (List.mem_of_getElem? (i := 91) (by decide +kernel)) (by decide) (by decide) ?_
  refine ev_aload_n dX3_init_4 rfl ?_
  refine ev_iconst (0 : Int32) dX3_init_5 (by decide) ?_
  refine ev_putI lf_X3_9 dX3_init_6 rfl rfl rfl rfl ?_
  refine ev_aload_n dX3_init_9 rfl ?_
  refine ev_iconst (0 : Int32) dX3_init_10 (by decide) ?_
  refine ev_putI lf_X3_15 dX3_init_11 rfl rfl rfl rfl ?_
  refine ev_aload_n dX3_init_14 rfl ?_
  refine ev_bipush (40 : Int32) dX3_init_15 (by decide) ?_
  refine ev_newa (ty := .int) (N := 40) dX3_init_17 rfl (by decide) rfl (List.mem_of_getElem? (i := 114) (by decide +kernel)) (by decide) (by decide) (by decide) (by decide) (by decide) (by decide) (fun _ => rfl) rfl rfl ?_
  refine ev_putRF lf_X3_18 dX3_init_19 rfl rfl rfl rfl rfl (by decide) ?_
  exact ev_vret rfl dX3_init_22 ⟨rfl, rfl, rfl⟩
set_option maxRecDepth 100000 in
set_option maxHeartbeats 4000000 in
theorem wi_X3_init_55 : bv_Met yX3_init MX3_init bv_X0 1 56 57 [.ref 55] cr_58 cm_57 (fun r mr' mi' => r = none ∧ mr' = cr_59 ∧ mi' = cm_60) := by
  refine bv_Met.of (pn_X 3 (by decide)) rfl (fun _ => rfl) (Nat.le_of_ble_eq_true rfl) ?_
  refine ev_aload_n dX3_init_0 rfl ?_
  refine ev_objInit dX3_init_1 (List.mem_of_getElem? (i := 269) (by decide +kernel)) (List.mem_of_getElem? (i := 90) (by decide +kernel)) (List.mem_of_getElem? (i := 91) (by decide +kernel)) (by decide) (by decide) ?_
  refine ev_aload_n dX3_init_4 rfl ?_
  refine ev_iconst (0 : Int32) dX3_init_5 (by decide) ?_
  refine ev_putI lf_X3_9 dX3_init_6 rfl rfl rfl rfl ?_
  refine ev_aload_n dX3_init_9 rfl ?_
  refine ev_iconst (0 : Int32) dX3_init_10 (by decide) ?_
  refine ev_putI lf_X3_15 dX3_init_11 rfl rfl rfl rfl ?_
  refine ev_aload_n dX3_init_14 rfl ?_
  refine ev_bipush (40 : Int32) dX3_init_15 (by decide) ?_
  refine ev_newa (ty := .int) (N := 40) dX3_init_17 rfl (by decide) rfl (List.mem_of_getElem? (i := 114) (by decide +kernel)) (by decide) (by decide) (by decide) (by decide) (by decide) (by decide) (fun _ => rfl) rfl rfl ?_
  refine ev_putRF lf_X3_18 dX3_init_19 rfl rfl rfl rfl rfl (by decide) ?_
  exact ev_vret rfl dX3_init_22 ⟨rfl, rfl, rfl⟩
set_option maxRecDepth 100000 in
set_option maxHeartbeats 4000000 in
theorem wi_X3_init_57 : bv_Met yX3_init MX3_init bv_X0 1 58 59 [.ref 57] cr_61 cm_60 (fun r mr' mi' => r = none ∧ mr' = cr_62 ∧ mi' = cm_63) := by
  refine bv_Met.of (pn_X 3 (by decide)) rfl (fun _ => rfl) (Nat.le_of_ble_eq_true rfl) ?_
  refine ev_aload_n dX3_init_0 rfl ?_
  refine ev_objInit dX3_init_1 (List.mem_of_getElem? (i := 269) (by decide +kernel)) (List.mem_of_getElem? (i := 90) (by decide +kernel)) (List.mem_of_getElem? (i := 91) (by decide +kernel)) (by decide) (by decide) ?_
  refine ev_aload_n dX3_init_4 rfl ?_
  refine ev_iconst (0 : Int32) dX3_init_5 (by decide) ?_
  refine ev_putI lf_X3_9 dX3_init_6 rfl rfl rfl rfl ?_
  refine ev_aload_n dX3_init_9 rfl ?_
  refine ev_iconst (0 : Int32) dX3_init_10 (by decide) ?_
  refine ev_putI lf_X3_15 dX3_init_11 rfl rfl rfl rfl ?_
  refine ev_aload_n dX3_init_14 rfl ?_
  refine ev_bipush (40 : Int32) dX3_init_15 (by decide) ?_
  refine ev_newa (ty := .int) (N := 40) dX3_init_17 rfl (by decide) rfl (List.mem_of_getElem? (i := 114) (by decide +kernel)) (by decide) (by decide) (by decide) (by decide) (by decide) (by decide) (fun _ => rfl) rfl rfl ?_
  refine ev_putRF lf_X3_18 dX3_init_19 rfl rfl rfl rfl rfl (by decide) ?_
  exact ev_vret rfl dX3_init_22 ⟨rfl, rfl, rfl⟩
set_option maxRecDepth 100000 in
set_option maxHeartbeats 4000000 in
theorem wi_X3_init_59 : bv_Met yX3_init MX3_init bv_X0 1 60 61 [.ref 59] cr_64 cm_63 (fun r mr' mi' => r = none ∧ mr' = cr_65 ∧ mi' = cm_66) := by
  refine bv_Met.of (pn_X 3 (by decide)) rfl (fun _ => rfl) (Nat.le_of_ble_eq_true rfl) ?_
  refine ev_aload_n dX3_init_0 rfl ?_
  refine ev_objInit dX3_init_1 (List.mem_of_getElem? (i := 269) (by decide +kernel)) (List.mem_of_getElem? (i := 90) (by decide +kernel)) (List.mem_of_getElem? (i := 91) (by decide +kernel)) (by decide) (by decide) ?_
  refine ev_aload_n dX3_init_4 rfl ?_
  refine ev_iconst (0 : Int32) dX3_init_5 (by decide) ?_
  refine ev_putI lf_X3_9 dX3_init_6 rfl rfl rfl rfl ?_
  refine ev_aload_n dX3_init_9 rfl ?_
  refine ev_iconst (0 : Int32) dX3_init_10 (by decide) ?_
  refine ev_putI lf_X3_15 dX3_init_11 rfl rfl rfl rfl ?_
  refine ev_aload_n dX3_init_14 rfl ?_
  refine ev_bipush (40 : Int32) dX3_init_15 (by decide) ?_
  refine ev_newa (ty := .int) (N := 40) dX3_init_17 rfl (by decide) rfl (List.mem_of_getElem? (i := 114) (by decide +kernel)) (by decide) (by decide) (by decide) (by decide) (by decide) (by decide) (fun _ => rfl) rfl rfl ?_
  refine ev_putRF lf_X3_18 dX3_init_19 rfl rfl rfl rfl rfl (by decide) ?_
  exact ev_vret rfl dX3_init_22 ⟨rfl, rfl, rfl⟩
set_option maxRecDepth 100000 in
set_option maxHeartbeats 4000000 in
theorem wi_X7_init_0 : bv_Met yX7_init MX7_init bv_X0 3 1 61 [.ref 0] cr_0 cm_0 (fun r mr' mi' => r = none ∧ mr' = cr_67 ∧ mi' = cm_66) := by
  refine bv_Met.of (pn_X 7 (by decide)) rfl (fun _ => rfl) (Nat.le_of_ble_eq_true rfl) ?_
  refine ev_aload_n dX7_init_0 rfl ?_
  refine ev_objInit dX7_init_1 (List.mem_of_getElem? (i := 89) (by decide +kernel)) (List.mem_of_getElem? (i := 90) (by decide +kernel)) (List.mem_of_getElem? (i := 91) (by decide +kernel)) (by decide) (by decide) ?_
  refine ev_aload_n dX7_init_4 rfl ?_
  refine ev_new (ci := 5) dX7_init_5 rfl (by decide) (List.mem_of_getElem? (i := 92) (by decide +kernel)) (List.mem_of_getElem? (i := 93) (by decide +kernel)) (List.mem_of_getElem? (i := 73) (by decide +kernel)) (by decide) (by decide) (by decide) (fun _ => rfl) (fun _ => rfl) rfl rfl ?_
  refine ev_dup dX7_init_8 rfl ?_
  refine ev_callI [] lk_X7_9 dX7_init_9 rfl rfl (fun _ _ q => q) wi_X5_init_1 (by decide) (by decide) (by decide) (by decide) (by decide) (Or.inr ⟨rfl, rfl⟩) (fun r mr' mi' hq => ?_)
  obtain ⟨rfl, rfl, rfl⟩ := hq
  refine ev_putRF lf_X7_10 dX7_init_12 rfl rfl rfl rfl rfl (by decide) ?_
  refine ev_aload_n dX7_init_15 rfl ?_
  refine ev_new (ci := 5) dX7_init_16 rfl (by decide) (List.mem_of_getElem? (i := 92) (by decide +kernel)) (List.mem_of_getElem? (i := 93) (by decide +kernel)) (List.mem_of_getElem? (i := 73) (by decide +kernel)) (by decide) (by decide) (by decide) (fun _ => rfl) (fun _ => rfl) rfl rfl ?_
  refine ev_dup dX7_init_19 rfl ?_
  refine ev_callI [] lk_X7_9 dX7_init_20 rfl rfl (fun _ _ q => q) wi_X5_init_22 (by decide) (by decide) (by decide) (by decide) (by decide) (Or.inr ⟨rfl, rfl⟩) (fun r mr' mi' hq => ?_)
  obtain ⟨rfl, rfl, rfl⟩ := hq
  refine ev_putRF lf_X7_16 dX7_init_23 rfl rfl rfl rfl rfl (by decide) ?_
  refine ev_aload_n dX7_init_26 rfl ?_
  refine ev_iconst (0 : Int32) dX7_init_27 (by decide) ?_
  refine ev_putI lf_X7_19 dX7_init_28 rfl rfl rfl rfl ?_
  refine ev_aload_n dX7_init_31 rfl ?_
  refine ev_new (ci := 2) dX7_init_32 rfl (by decide) (List.mem_of_getElem? (i := 212) (by decide +kernel)) (List.mem_of_getElem? (i := 213) (by decide +kernel)) (List.mem_of_getElem? (i := 77) (by decide +kernel)) (by decide) (by decide) (by decide) (fun _ => rfl) (fun _ => rfl) rfl rfl ?_
  refine ev_dup dX7_init_35 rfl ?_
  refine ev_callIN [] lk_X7_25 dX7_init_36 rfl rfl (fun _ _ q => q) wi_X2_init_43 (by decide) (by decide) (by decide) (by decide) (by decide) (Or.inr ⟨rfl, rfl⟩) (fun r mr' mi' hq => ?_)
  obtain ⟨rfl, rfl, rfl⟩ := hq
  refine ev_putRF lf_X7_26 dX7_init_39 rfl rfl rfl rfl rfl (by decide) ?_
  refine ev_aload_n dX7_init_42 rfl ?_
  refine ev_new (ci := 6) dX7_init_43 rfl (by decide) (List.mem_of_getElem? (i := 239) (by decide +kernel)) (List.mem_of_getElem? (i := 240) (by decide +kernel)) (List.mem_of_getElem? (i := 78) (by decide +kernel)) (by decide) (by decide) (by decide) (fun _ => rfl) (fun _ => rfl) rfl rfl ?_
  refine ev_dup dX7_init_46 rfl ?_
  refine ev_callIN [] lk_X7_32 dX7_init_47 rfl rfl (fun _ _ q => q) wi_X6_init_47 (by decide) (by decide) (by decide) (by decide) (by decide) (Or.inr ⟨rfl, rfl⟩) (fun r mr' mi' hq => ?_)
  obtain ⟨rfl, rfl, rfl⟩ := hq
  refine ev_putRF lf_X7_33 dX7_init_50 rfl rfl rfl rfl rfl (by decide) ?_
  refine ev_aload_n dX7_init_53 rfl ?_
  refine ev_iconst (4 : Int32) dX7_init_54 (by decide) ?_
  refine ev_newq (C := RX3) (N := 4) dX7_init_55 rfl (List.mem_of_getElem? (i := 263) (by decide +kernel)) (List.mem_of_getElem? (i := 264) (by decide +kernel)) (by decide) (by decide) (by decide) (by decide) (by decide) (by decide) (fun _ => rfl) rfl rfl ?_
  refine ev_putRF lf_X7_39 dX7_init_58 rfl rfl rfl rfl rfl (by decide) ?_
  refine ev_aload_n dX7_init_61 rfl ?_
  refine ev_bipush (6 : Int32) dX7_init_62 (by decide) ?_
  refine ev_newa (ty := .int) (N := 6) dX7_init_64 rfl (by decide) rfl (List.mem_of_getElem? (i := 114) (by decide +kernel)) (by decide) (by decide) (by decide) (by decide) (by decide) (by decide) (fun _ => rfl) rfl rfl ?_
  refine ev_putRF lf_X7_43 dX7_init_66 rfl rfl rfl rfl rfl (by decide) ?_
  refine ev_aload_n dX7_init_69 rfl ?_
  refine ev_bipush (8 : Int32) dX7_init_70 (by decide) ?_
  refine ev_newa (ty := .int) (N := 8) dX7_init_72 rfl (by decide) rfl (List.mem_of_getElem? (i := 114) (by decide +kernel)) (by decide) (by decide) (by decide) (by decide) (by decide) (by decide) (fun _ => rfl) rfl rfl ?_
  refine ev_putRF lf_X7_47 dX7_init_74 rfl rfl rfl rfl rfl (by decide) ?_
  refine ev_aload_n dX7_init_77 rfl ?_
  refine ev_bipush (8 : Int32) dX7_init_78 (by decide) ?_
  refine ev_newa (ty := .int) (N := 8) dX7_init_80 rfl (by decide) rfl (List.mem_of_getElem? (i := 114) (by decide +kernel)) (by decide) (by decide) (by decide) (by decide) (by decide) (by decide) (fun _ => rfl) rfl rfl ?_
  refine ev_putRF lf_X7_50 dX7_init_82 rfl rfl rfl rfl rfl (by decide) ?_
  refine ev_iconst (0 : Int32) dX7_init_85 (by decide) ?_
  refine ev_istore_n dX7_init_86 rfl rfl ?_
  refine ev_iload_n dX7_init_87 rfl ?_
  refine ev_iconst (4 : Int32) dX7_init_88 (by decide) ?_
  refine ev_icmp_ge 111 dX7_init_89 (by decide) (fun c => absurd c (by decide)) (fun _ => ?_)
  refine ev_aload_n dX7_init_92 rfl ?_
  refine ev_getR 49 lf_X7_39 dX7_init_93 rfl rfl rfl ?_
  refine ev_iload_n dX7_init_96 rfl ?_
  refine ev_new (ci := 3) dX7_init_97 rfl (by decide) (List.mem_of_getElem? (i := 263) (by decide +kernel)) (List.mem_of_getElem? (i := 265) (by decide +kernel)) (List.mem_of_getElem? (i := 79) (by decide +kernel)) (by decide) (by decide) (by decide) (fun _ => rfl) (fun _ => rfl) rfl rfl ?_
  refine ev_dup dX7_init_100 rfl ?_
  refine ev_callIN [] lk_X7_53 dX7_init_101 rfl rfl (fun _ _ q => q) wi_X3_init_53 (by decide) (by decide) (by decide) (by decide) (by decide) (Or.inr ⟨rfl, rfl⟩) (fun r mr' mi' hq => ?_)
  obtain ⟨rfl, rfl, rfl⟩ := hq
  refine ev_aastk (ci := 3) (N := 4) 0 dX7_init_104 (by decide) rfl (by decide) rfl rfl (by decide) ?_
  refine ev_iinc (1 : Int32) dX7_init_105 rfl (by decide) rfl rfl ?_
  refine ev_goto 87 dX7_init_108 (by decide) ?_
  refine ev_iload_n dX7_init_87 rfl ?_
  refine ev_iconst (4 : Int32) dX7_init_88 (by decide) ?_
  refine ev_icmp_ge 111 dX7_init_89 (by decide) (fun c => absurd c (by decide)) (fun _ => ?_)
  refine ev_aload_n dX7_init_92 rfl ?_
  refine ev_getR 49 lf_X7_39 dX7_init_93 rfl rfl rfl ?_
  refine ev_iload_n dX7_init_96 rfl ?_
  refine ev_new (ci := 3) dX7_init_97 rfl (by decide) (List.mem_of_getElem? (i := 263) (by decide +kernel)) (List.mem_of_getElem? (i := 265) (by decide +kernel)) (List.mem_of_getElem? (i := 79) (by decide +kernel)) (by decide) (by decide) (by decide) (fun _ => rfl) (fun _ => rfl) rfl rfl ?_
  refine ev_dup dX7_init_100 rfl ?_
  refine ev_callIN [] lk_X7_53 dX7_init_101 rfl rfl (fun _ _ q => q) wi_X3_init_55 (by decide) (by decide) (by decide) (by decide) (by decide) (Or.inr ⟨rfl, rfl⟩) (fun r mr' mi' hq => ?_)
  obtain ⟨rfl, rfl, rfl⟩ := hq
  refine ev_aastk (ci := 3) (N := 4) 1 dX7_init_104 (by decide) rfl (by decide) rfl rfl (by decide) ?_
  refine ev_iinc (2 : Int32) dX7_init_105 rfl (by decide) rfl rfl ?_
  refine ev_goto 87 dX7_init_108 (by decide) ?_
  refine ev_iload_n dX7_init_87 rfl ?_
  refine ev_iconst (4 : Int32) dX7_init_88 (by decide) ?_
  refine ev_icmp_ge 111 dX7_init_89 (by decide) (fun c => absurd c (by decide)) (fun _ => ?_)
  refine ev_aload_n dX7_init_92 rfl ?_
  refine ev_getR 49 lf_X7_39 dX7_init_93 rfl rfl rfl ?_
  refine ev_iload_n dX7_init_96 rfl ?_
  refine ev_new (ci := 3) dX7_init_97 rfl (by decide) (List.mem_of_getElem? (i := 263) (by decide +kernel)) (List.mem_of_getElem? (i := 265) (by decide +kernel)) (List.mem_of_getElem? (i := 79) (by decide +kernel)) (by decide) (by decide) (by decide) (fun _ => rfl) (fun _ => rfl) rfl rfl ?_
  refine ev_dup dX7_init_100 rfl ?_
  refine ev_callIN [] lk_X7_53 dX7_init_101 rfl rfl (fun _ _ q => q) wi_X3_init_57 (by decide) (by decide) (by decide) (by decide) (by decide) (Or.inr ⟨rfl, rfl⟩) (fun r mr' mi' hq => ?_)
  obtain ⟨rfl, rfl, rfl⟩ := hq
  refine ev_aastk (ci := 3) (N := 4) 2 dX7_init_104 (by decide) rfl (by decide) rfl rfl (by decide) ?_
  refine ev_iinc (3 : Int32) dX7_init_105 rfl (by decide) rfl rfl ?_
  refine ev_goto 87 dX7_init_108 (by decide) ?_
  refine ev_iload_n dX7_init_87 rfl ?_
  refine ev_iconst (4 : Int32) dX7_init_88 (by decide) ?_
  refine ev_icmp_ge 111 dX7_init_89 (by decide) (fun c => absurd c (by decide)) (fun _ => ?_)
  refine ev_aload_n dX7_init_92 rfl ?_
  refine ev_getR 49 lf_X7_39 dX7_init_93 rfl rfl rfl ?_
  refine ev_iload_n dX7_init_96 rfl ?_
  refine ev_new (ci := 3) dX7_init_97 rfl (by decide) (List.mem_of_getElem? (i := 263) (by decide +kernel)) (List.mem_of_getElem? (i := 265) (by decide +kernel)) (List.mem_of_getElem? (i := 79) (by decide +kernel)) (by decide) (by decide) (by decide) (fun _ => rfl) (fun _ => rfl) rfl rfl ?_
  refine ev_dup dX7_init_100 rfl ?_
  refine ev_callIN [] lk_X7_53 dX7_init_101 rfl rfl (fun _ _ q => q) wi_X3_init_59 (by decide) (by decide) (by decide) (by decide) (by decide) (Or.inr ⟨rfl, rfl⟩) (fun r mr' mi' hq => ?_)
  obtain ⟨rfl, rfl, rfl⟩ := hq
  refine ev_aastk (ci := 3) (N := 4) 3 dX7_init_104 (by decide) rfl (by decide) rfl rfl (by decide) ?_
  refine ev_iinc (4 : Int32) dX7_init_105 rfl (by decide) rfl rfl ?_
  refine ev_goto 87 dX7_init_108 (by decide) ?_
  refine ev_iload_n dX7_init_87 rfl ?_
  refine ev_iconst (4 : Int32) dX7_init_88 (by decide) ?_
  refine ev_icmp_ge 111 dX7_init_89 (by decide) (fun _ => ?_) (fun c => absurd (by decide) c)
  exact ev_vret rfl dX7_init_111 ⟨rfl, rfl, rfl⟩
set_option maxRecDepth 100000 in
set_option maxHeartbeats 4000000 in
theorem wi_X8_init_61 : bv_Met yX8_init MX8_init bv_X0 1 62 74 [.ref 61] cr_67 cm_66 (fun r mr' mi' => r = none ∧ mr' = cr_68 ∧ mi' = cm_69) := by
  refine bv_Met.of (pn_X 8 (by decide)) rfl (fun _ => rfl) (Nat.le_of_ble_eq_true rfl) ?_
  refine ev_aload_n dX8_init_0 rfl ?_
  refine ev_objInit dX8_init_1 (List.mem_of_getElem? (i := 772) (by decide +kernel)) (List.mem_of_getElem? (i := 90) (by decide +kernel)) (List.mem_of_getElem? (i := 91) (by decide +kernel)) (by decide) (by decide) ?_
  refine ev_aload_n dX8_init_4 rfl ?_
  refine ev_sipush (371 : Int32) dX8_init_5 (by decide) ?_
  refine ev_newa (ty := .int) (N := 371) dX8_init_8 rfl (by decide) rfl (List.mem_of_getElem? (i := 114) (by decide +kernel)) (by decide) (by decide) (by decide) (by decide) (by decide) (by decide) (fun _ => rfl) rfl rfl ?_
  refine ev_putRF lf_X8_9 dX8_init_10 rfl rfl rfl rfl rfl (by decide) ?_
  refine ev_aload_n dX8_init_13 rfl ?_
  refine ev_sipush (371 : Int32) dX8_init_14 (by decide) ?_
  refine ev_newa (ty := .int) (N := 371) dX8_init_17 rfl (by decide) rfl (List.mem_of_getElem? (i := 114) (by decide +kernel)) (by decide) (by decide) (by decide) (by decide) (by decide) (by decide) (fun _ => rfl) rfl rfl ?_
  refine ev_putRF lf_X8_13 dX8_init_19 rfl rfl rfl rfl rfl (by decide) ?_
  refine ev_aload_n dX8_init_22 rfl ?_
  refine ev_sipush (371 : Int32) dX8_init_23 (by decide) ?_
  refine ev_newa (ty := .int) (N := 371) dX8_init_26 rfl (by decide) rfl (List.mem_of_getElem? (i := 114) (by decide +kernel)) (by decide) (by decide) (by decide) (by decide) (by decide) (by decide) (fun _ => rfl) rfl rfl ?_
  refine ev_putRF lf_X8_16 dX8_init_28 rfl rfl rfl rfl rfl (by decide) ?_
  refine ev_aload_n dX8_init_31 rfl ?_
  refine ev_bipush (6 : Int32) dX8_init_32 (by decide) ?_
  refine ev_newa (ty := .int) (N := 6) dX8_init_34 rfl (by decide) rfl (List.mem_of_getElem? (i := 114) (by decide +kernel)) (by decide) (by decide) (by decide) (by decide) (by decide) (by decide) (fun _ => rfl) rfl rfl ?_
  refine ev_putRF lf_X8_19 dX8_init_36 rfl rfl rfl rfl rfl (by decide) ?_
  refine ev_aload_n dX8_init_39 rfl ?_
  refine ev_bipush (50 : Int32) dX8_init_40 (by decide) ?_
  refine ev_newa (ty := .int) (N := 50) dX8_init_42 rfl (by decide) rfl (List.mem_of_getElem? (i := 114) (by decide +kernel)) (by decide) (by decide) (by decide) (by decide) (by decide) (by decide) (fun _ => rfl) rfl rfl ?_
  refine ev_putRF lf_X8_22 dX8_init_44 rfl rfl rfl rfl rfl (by decide) ?_
  refine ev_aload_n dX8_init_47 rfl ?_
  refine ev_bipush (50 : Int32) dX8_init_48 (by decide) ?_
  refine ev_newa (ty := .int) (N := 50) dX8_init_50 rfl (by decide) rfl (List.mem_of_getElem? (i := 114) (by decide +kernel)) (by decide) (by decide) (by decide) (by decide) (by decide) (by decide) (fun _ => rfl) rfl rfl ?_
  refine ev_putRF lf_X8_25 dX8_init_52 rfl rfl rfl rfl rfl (by decide) ?_
  refine ev_aload_n dX8_init_55 rfl ?_
  refine ev_iconst (3 : Int32) dX8_init_56 (by decide) ?_
  refine ev_newa (ty := .int) (N := 3) dX8_init_57 rfl (by decide) rfl (List.mem_of_getElem? (i := 114) (by decide +kernel)) (by decide) (by decide) (by decide) (by decide) (by decide) (by decide) (fun _ => rfl) rfl rfl ?_
  refine ev_putRF lf_X8_28 dX8_init_59 rfl rfl rfl rfl rfl (by decide) ?_
  refine ev_aload_n dX8_init_62 rfl ?_
  refine ev_bipush (50 : Int32) dX8_init_63 (by decide) ?_
  refine ev_newa (ty := .int) (N := 50) dX8_init_65 rfl (by decide) rfl (List.mem_of_getElem? (i := 114) (by decide +kernel)) (by decide) (by decide) (by decide) (by decide) (by decide) (by decide) (fun _ => rfl) rfl rfl ?_
  refine ev_putRF lf_X8_31 dX8_init_67 rfl rfl rfl rfl rfl (by decide) ?_
  refine ev_aload_n dX8_init_70 rfl ?_
  refine ev_bipush (40 : Int32) dX8_init_71 (by decide) ?_
  refine ev_newa (ty := .int) (N := 40) dX8_init_73 rfl (by decide) rfl (List.mem_of_getElem? (i := 114) (by decide +kernel)) (by decide) (by decide) (by decide) (by decide) (by decide) (by decide) (fun _ => rfl) rfl rfl ?_
  refine ev_putRF lf_X8_34 dX8_init_75 rfl rfl rfl rfl rfl (by decide) ?_
  refine ev_aload_n dX8_init_78 rfl ?_
  refine ev_iconst (4 : Int32) dX8_init_79 (by decide) ?_
  refine ev_newa (ty := .int) (N := 4) dX8_init_80 rfl (by decide) rfl (List.mem_of_getElem? (i := 114) (by decide +kernel)) (by decide) (by decide) (by decide) (by decide) (by decide) (by decide) (fun _ => rfl) rfl rfl ?_
  refine ev_putRF lf_X8_37 dX8_init_82 rfl rfl rfl rfl rfl (by decide) ?_
  refine ev_aload_n dX8_init_85 rfl ?_
  refine ev_iconst (4 : Int32) dX8_init_86 (by decide) ?_
  refine ev_newa (ty := .int) (N := 4) dX8_init_87 rfl (by decide) rfl (List.mem_of_getElem? (i := 114) (by decide +kernel)) (by decide) (by decide) (by decide) (by decide) (by decide) (by decide) (fun _ => rfl) rfl rfl ?_
  refine ev_putRF lf_X8_40 dX8_init_89 rfl rfl rfl rfl rfl (by decide) ?_
  refine ev_aload_n dX8_init_92 rfl ?_
  refine ev_sipush (160 : Int32) dX8_init_93 (by decide) ?_
  refine ev_newa (ty := .int) (N := 160) dX8_init_96 rfl (by decide) rfl (List.mem_of_getElem? (i := 114) (by decide +kernel)) (by decide) (by decide) (by decide) (by decide) (by decide) (by decide) (fun _ => rfl) rfl rfl ?_
  refine ev_putRF lf_X8_43 dX8_init_98 rfl rfl rfl rfl rfl (by decide) ?_
  refine ev_aload_n dX8_init_101 rfl ?_
  refine ev_getR 62 lf_X8_9 dX8_init_102 rfl rfl rfl ?_
  refine ev_iconst (1 : Int32) dX8_init_105 (by decide) ?_
  refine ev_iconst (1 : Int32) dX8_init_106 (by decide) ?_
  refine ev_iastk (N := 371) 1 dX8_init_107 rfl rfl (by decide) ?_
  refine ev_iconst (0 : Int32) dX8_init_108 (by decide) ?_
  refine ev_istore_n dX8_init_109 rfl rfl ?_
  refine ev_iload_n dX8_init_110 rfl ?_
  refine ev_bipush (20 : Int32) dX8_init_111 (by decide) ?_
  refine ev_icmp_ge 132 dX8_init_113 (by decide) (fun c => absurd c (by decide)) (fun _ => ?_)
  refine ev_aload_n dX8_init_116 rfl ?_
  refine ev_getR 62 lf_X8_9 dX8_init_117 rfl rfl rfl ?_
  refine ev_bipush (11 : Int32) dX8_init_120 (by decide) ?_
  refine ev_iload_n dX8_init_122 rfl ?_
  refine ev_iadd dX8_init_123 ?_
  refine ev_topn (11 : Int32) (by decide) ?_
  refine ev_iconst (5 : Int32) dX8_init_124 (by decide) ?_
  refine ev_iastk (N := 371) 11 dX8_init_125 rfl rfl (by decide) ?_
  refine ev_iinc (1 : Int32) dX8_init_126 rfl (by decide) rfl rfl ?_
  refine ev_goto 110 dX8_init_129 (by decide) ?_
  refine ev_iload_n dX8_init_110 rfl ?_
  refine ev_bipush (20 : Int32) dX8_init_111 (by decide) ?_
  refine ev_icmp_ge 132 dX8_init_113 (by decide) (fun c => absurd c (by decide)) (fun _ => ?_)
  refine ev_aload_n dX8_init_116 rfl ?_
  refine ev_getR 62 lf_X8_9 dX8_init_117 rfl rfl rfl ?_
  refine ev_bipush (11 : Int32) dX8_init_120 (by decide) ?_
  refine ev_iload_n dX8_init_122 rfl ?_
  refine ev_iadd dX8_init_123 ?_
  refine ev_topn (12 : Int32) (by decide) ?_
  refine ev_iconst (5 : Int32) dX8_init_124 (by decide) ?_
  refine ev_iastk (N := 371) 12 dX8_init_125 rfl rfl (by decide) ?_
  refine ev_iinc (2 : Int32) dX8_init_126 rfl (by decide) rfl rfl ?_
  refine ev_goto 110 dX8_init_129 (by decide) ?_
  refine ev_iload_n dX8_init_110 rfl ?_
  refine ev_bipush (20 : Int32) dX8_init_111 (by decide) ?_
  refine ev_icmp_ge 132 dX8_init_113 (by decide) (fun c => absurd c (by decide)) (fun _ => ?_)
  refine ev_aload_n dX8_init_116 rfl ?_
  refine ev_getR 62 lf_X8_9 dX8_init_117 rfl rfl rfl ?_
  refine ev_bipush (11 : Int32) dX8_init_120 (by decide) ?_
  refine ev_iload_n dX8_init_122 rfl ?_
  refine ev_iadd dX8_init_123 ?_
  refine ev_topn (13 : Int32) (by decide) ?_
  refine ev_iconst (5 : Int32) dX8_init_124 (by decide) ?_
  refine ev_iastk (N := 371) 13 dX8_init_125 rfl rfl (by decide) ?_
  refine ev_iinc (3 : Int32) dX8_init_126 rfl (by decide) rfl rfl ?_
  refine ev_goto 110 dX8_init_129 (by decide) ?_
  refine ev_iload_n dX8_init_110 rfl ?_
  refine ev_bipush (20 : Int32) dX8_init_111 (by decide) ?_
  refine ev_icmp_ge 132 dX8_init_113 (by decide) (fun c => absurd c (by decide)) (fun _ => ?_)
  refine ev_aload_n dX8_init_116 rfl ?_
  refine ev_getR 62 lf_X8_9 dX8_init_117 rfl rfl rfl ?_
  refine ev_bipush (11 : Int32) dX8_init_120 (by decide) ?_
  refine ev_iload_n dX8_init_122 rfl ?_
  refine ev_iadd dX8_init_123 ?_
  refine ev_topn (14 : Int32) (by decide) ?_
  refine ev_iconst (5 : Int32) dX8_init_124 (by decide) ?_
  refine ev_iastk (N := 371) 14 dX8_init_125 rfl rfl (by decide) ?_
  refine ev_iinc (4 : Int32) dX8_init_126 rfl (by decide) rfl rfl ?_
  refine ev_goto 110 dX8_init_129 (by decide) ?_
  refine ev_iload_n dX8_init_110 rfl ?_
  refine ev_bipush (20 : Int32) dX8_init_111 (by decide) ?_
  refine ev_icmp_ge 132 dX8_init_113 (by decide) (fun c => absurd c (by decide)) (fun _ => ?_)
  refine ev_aload_n dX8_init_116 rfl ?_
  refine ev_getR 62 lf_X8_9 dX8_init_117 rfl rfl rfl ?_
  refine ev_bipush (11 : Int32) dX8_init_120 (by decide) ?_
  refine ev_iload_n dX8_init_122 rfl ?_
  refine ev_iadd dX8_init_123 ?_
  refine ev_topn (15 : Int32) (by decide) ?_
  refine ev_iconst (5 : Int32) dX8_init_124 (by decide) ?_
  refine ev_iastk (N := 371) 15 dX8_init_125 rfl rfl (by decide) ?_
  refine ev_iinc (5 : Int32) dX8_init_126 rfl (by decide) rfl rfl ?_
  refine ev_goto 110 dX8_init_129 (by decide) ?_
  refine ev_iload_n dX8_init_110 rfl ?_
  refine ev_bipush (20 : Int32) dX8_init_111 (by decide) ?_
  refine ev_icmp_ge 132 dX8_init_113 (by decide) (fun c => absurd c (by decide)) (fun _ => ?_)
  refine ev_aload_n dX8_init_116 rfl ?_
  refine ev_getR 62 lf_X8_9 dX8_init_117 rfl rfl rfl ?_
  refine ev_bipush (11 : Int32) dX8_init_120 (by decide) ?_
  refine ev_iload_n dX8_init_122 rfl ?_
  refine ev_iadd dX8_init_123 ?_
  refine ev_topn (16 : Int32) (by decide) ?_
  refine ev_iconst (5 : Int32) dX8_init_124 (by decide) ?_
  refine ev_iastk (N := 371) 16 dX8_init_125 rfl rfl (by decide) ?_
  refine ev_iinc (6 : Int32) dX8_init_126 rfl (by decide) rfl rfl ?_
  refine ev_goto 110 dX8_init_129 (by decide) ?_
  refine ev_iload_n dX8_init_110 rfl ?_
  refine ev_bipush (20 : Int32) dX8_init_111 (by decide) ?_
  refine ev_icmp_ge 132 dX8_init_113 (by decide) (fun c => absurd c (by decide)) (fun _ => ?_)
  refine ev_aload_n dX8_init_116 rfl ?_
  refine ev_getR 62 lf_X8_9 dX8_init_117 rfl rfl rfl ?_
  refine ev_bipush (11 : Int32) dX8_init_120 (by decide) ?_
  refine ev_iload_n dX8_init_122 rfl ?_
  refine ev_iadd dX8_init_123 ?_
  refine ev_topn (17 : Int32) (by decide) ?_
  refine ev_iconst (5 : Int32) dX8_init_124 (by decide) ?_
  refine ev_iastk (N := 371) 17 dX8_init_125 rfl rfl (by decide) ?_
  refine ev_iinc (7 : Int32) dX8_init_126 rfl (by decide) rfl rfl ?_
  refine ev_goto 110 dX8_init_129 (by decide) ?_
  refine ev_iload_n dX8_init_110 rfl ?_
  refine ev_bipush (20 : Int32) dX8_init_111 (by decide) ?_
  refine ev_icmp_ge 132 dX8_init_113 (by decide) (fun c => absurd c (by decide)) (fun _ => ?_)
  refine ev_aload_n dX8_init_116 rfl ?_
  refine ev_getR 62 lf_X8_9 dX8_init_117 rfl rfl rfl ?_
  refine ev_bipush (11 : Int32) dX8_init_120 (by decide) ?_
  refine ev_iload_n dX8_init_122 rfl ?_
  refine ev_iadd dX8_init_123 ?_
  refine ev_topn (18 : Int32) (by decide) ?_
  refine ev_iconst (5 : Int32) dX8_init_124 (by decide) ?_
  refine ev_iastk (N := 371) 18 dX8_init_125 rfl rfl (by decide) ?_
  refine ev_iinc (8 : Int32) dX8_init_126 rfl (by decide) rfl rfl ?_
  refine ev_goto 110 dX8_init_129 (by decide) ?_
  refine ev_iload_n dX8_init_110 rfl ?_
  refine ev_bipush (20 : Int32) dX8_init_111 (by decide) ?_
  refine ev_icmp_ge 132 dX8_init_113 (by decide) (fun c => absurd c (by decide)) (fun _ => ?_)
  refine ev_aload_n dX8_init_116 rfl ?_
  refine ev_getR 62 lf_X8_9 dX8_init_117 rfl rfl rfl ?_
  refine ev_bipush (11 : Int32) dX8_init_120 (by decide) ?_
  refine ev_iload_n dX8_init_122 rfl ?_
  refine ev_iadd dX8_init_123 ?_
  refine ev_topn (19 : Int32) (by decide) ?_
  refine ev_iconst (5 : Int32) dX8_init_124 (by decide) ?_
  refine ev_iastk (N := 371) 19 dX8_init_125 rfl rfl (by decide) ?_
  refine ev_iinc (9 : Int32) dX8_init_126 rfl (by decide) rfl rfl ?_
  refine ev_goto 110 dX8_init_129 (by decide) ?_
  refine ev_iload_n dX8_init_110 rfl ?_
  refine ev_bipush (20 : Int32) dX8_init_111 (by decide) ?_
  refine ev_icmp_ge 132 dX8_init_113 (by decide) (fun c => absurd c (by decide)) (fun _ => ?_)
  refine ev_aload_n dX8_init_116 rfl ?_
  refine ev_getR 62 lf_X8_9 dX8_init_117 rfl rfl rfl ?_
  refine ev_bipush (11 : Int32) dX8_init_120 (by decide) ?_
  refine ev_iload_n dX8_init_122 rfl ?_
  refine ev_iadd dX8_init_123 ?_
  refine ev_topn (20 : Int32) (by decide) ?_
  refine ev_iconst (5 : Int32) dX8_init_124 (by decide) ?_
  refine ev_iastk (N := 371) 20 dX8_init_125 rfl rfl (by decide) ?_
  refine ev_iinc (10 : Int32) dX8_init_126 rfl (by decide) rfl rfl ?_
  refine ev_goto 110 dX8_init_129 (by decide) ?_
  refine ev_iload_n dX8_init_110 rfl ?_
  refine ev_bipush (20 : Int32) dX8_init_111 (by decide) ?_
  refine ev_icmp_ge 132 dX8_init_113 (by decide) (fun c => absurd c (by decide)) (fun _ => ?_)
  refine ev_aload_n dX8_init_116 rfl ?_
  refine ev_getR 62 lf_X8_9 dX8_init_117 rfl rfl rfl ?_
  refine ev_bipush (11 : Int32) dX8_init_120 (by decide) ?_
  refine ev_iload_n dX8_init_122 rfl ?_
  refine ev_iadd dX8_init_123 ?_
  refine ev_topn (21 : Int32) (by decide) ?_
  refine ev_iconst (5 : Int32) dX8_init_124 (by decide) ?_
  refine ev_iastk (N := 371) 21 dX8_init_125 rfl rfl (by decide) ?_
  refine ev_iinc (11 : Int32) dX8_init_126 rfl (by decide) rfl rfl ?_
  refine ev_goto 110 dX8_init_129 (by decide) ?_
  refine ev_iload_n dX8_init_110 rfl ?_
  refine ev_bipush (20 : Int32) dX8_init_111 (by decide) ?_
  refine ev_icmp_ge 132 dX8_init_113 (by decide) (fun c => absurd c (by decide)) (fun _ => ?_)
  refine ev_aload_n dX8_init_116 rfl ?_
  refine ev_getR 62 lf_X8_9 dX8_init_117 rfl rfl rfl ?_
  refine ev_bipush (11 : Int32) dX8_init_120 (by decide) ?_
  refine ev_iload_n dX8_init_122 rfl ?_
  refine ev_iadd dX8_init_123 ?_
  refine ev_topn (22 : Int32) (by decide) ?_
  refine ev_iconst (5 : Int32) dX8_init_124 (by decide) ?_
  refine ev_iastk (N := 371) 22 dX8_init_125 rfl rfl (by decide) ?_
  refine ev_iinc (12 : Int32) dX8_init_126 rfl (by decide) rfl rfl ?_
  refine ev_goto 110 dX8_init_129 (by decide) ?_
  refine ev_iload_n dX8_init_110 rfl ?_
  refine ev_bipush (20 : Int32) dX8_init_111 (by decide) ?_
  refine ev_icmp_ge 132 dX8_init_113 (by decide) (fun c => absurd c (by decide)) (fun _ => ?_)
  refine ev_aload_n dX8_init_116 rfl ?_
  refine ev_getR 62 lf_X8_9 dX8_init_117 rfl rfl rfl ?_
  refine ev_bipush (11 : Int32) dX8_init_120 (by decide) ?_
  refine ev_iload_n dX8_init_122 rfl ?_
  refine ev_iadd dX8_init_123 ?_
  refine ev_topn (23 : Int32) (by decide) ?_
  refine ev_iconst (5 : Int32) dX8_init_124 (by decide) ?_
  refine ev_iastk (N := 371) 23 dX8_init_125 rfl rfl (by decide) ?_
  refine ev_iinc (13 : Int32) dX8_init_126 rfl (by decide) rfl rfl ?_
  refine ev_goto 110 dX8_init_129 (by decide) ?_
  refine ev_iload_n dX8_init_110 rfl ?_
  refine ev_bipush (20 : Int32) dX8_init_111 (by decide) ?_
  refine ev_icmp_ge 132 dX8_init_113 (by decide) (fun c => absurd c (by decide)) (fun _ => ?_)
  refine ev_aload_n dX8_init_116 rfl ?_
  refine ev_getR 62 lf_X8_9 dX8_init_117 rfl rfl rfl ?_
  refine ev_bipush (11 : Int32) dX8_init_120 (by decide) ?_
  refine ev_iload_n dX8_init_122 rfl ?_
  refine ev_iadd dX8_init_123 ?_
  refine ev_topn (24 : Int32) (by decide) ?_
  refine ev_iconst (5 : Int32) dX8_init_124 (by decide) ?_
  refine ev_iastk (N := 371) 24 dX8_init_125 rfl rfl (by decide) ?_
  refine ev_iinc (14 : Int32) dX8_init_126 rfl (by decide) rfl rfl ?_
  refine ev_goto 110 dX8_init_129 (by decide) ?_
  refine ev_iload_n dX8_init_110 rfl ?_
  refine ev_bipush (20 : Int32) dX8_init_111 (by decide) ?_
  refine ev_icmp_ge 132 dX8_init_113 (by decide) (fun c => absurd c (by decide)) (fun _ => ?_)
  refine ev_aload_n dX8_init_116 rfl ?_
  refine ev_getR 62 lf_X8_9 dX8_init_117 rfl rfl rfl ?_
  refine ev_bipush (11 : Int32) dX8_init_120 (by decide) ?_
  refine ev_iload_n dX8_init_122 rfl ?_
  refine ev_iadd dX8_init_123 ?_
  refine ev_topn (25 : Int32) (by decide) ?_
  refine ev_iconst (5 : Int32) dX8_init_124 (by decide) ?_
  refine ev_iastk (N := 371) 25 dX8_init_125 rfl rfl (by decide) ?_
  refine ev_iinc (15 : Int32) dX8_init_126 rfl (by decide) rfl rfl ?_
  refine ev_goto 110 dX8_init_129 (by decide) ?_
  refine ev_iload_n dX8_init_110 rfl ?_
  refine ev_bipush (20 : Int32) dX8_init_111 (by decide) ?_
  refine ev_icmp_ge 132 dX8_init_113 (by decide) (fun c => absurd c (by decide)) (fun _ => ?_)
  refine ev_aload_n dX8_init_116 rfl ?_
  refine ev_getR 62 lf_X8_9 dX8_init_117 rfl rfl rfl ?_
  refine ev_bipush (11 : Int32) dX8_init_120 (by decide) ?_
  refine ev_iload_n dX8_init_122 rfl ?_
  refine ev_iadd dX8_init_123 ?_
  refine ev_topn (26 : Int32) (by decide) ?_
  refine ev_iconst (5 : Int32) dX8_init_124 (by decide) ?_
  refine ev_iastk (N := 371) 26 dX8_init_125 rfl rfl (by decide) ?_
  refine ev_iinc (16 : Int32) dX8_init_126 rfl (by decide) rfl rfl ?_
  refine ev_goto 110 dX8_init_129 (by decide) ?_
  refine ev_iload_n dX8_init_110 rfl ?_
  refine ev_bipush (20 : Int32) dX8_init_111 (by decide) ?_
  refine ev_icmp_ge 132 dX8_init_113 (by decide) (fun c => absurd c (by decide)) (fun _ => ?_)
  refine ev_aload_n dX8_init_116 rfl ?_
  refine ev_getR 62 lf_X8_9 dX8_init_117 rfl rfl rfl ?_
  refine ev_bipush (11 : Int32) dX8_init_120 (by decide) ?_
  refine ev_iload_n dX8_init_122 rfl ?_
  refine ev_iadd dX8_init_123 ?_
  refine ev_topn (27 : Int32) (by decide) ?_
  refine ev_iconst (5 : Int32) dX8_init_124 (by decide) ?_
  refine ev_iastk (N := 371) 27 dX8_init_125 rfl rfl (by decide) ?_
  refine ev_iinc (17 : Int32) dX8_init_126 rfl (by decide) rfl rfl ?_
  refine ev_goto 110 dX8_init_129 (by decide) ?_
  refine ev_iload_n dX8_init_110 rfl ?_
  refine ev_bipush (20 : Int32) dX8_init_111 (by decide) ?_
  refine ev_icmp_ge 132 dX8_init_113 (by decide) (fun c => absurd c (by decide)) (fun _ => ?_)
  refine ev_aload_n dX8_init_116 rfl ?_
  refine ev_getR 62 lf_X8_9 dX8_init_117 rfl rfl rfl ?_
  refine ev_bipush (11 : Int32) dX8_init_120 (by decide) ?_
  refine ev_iload_n dX8_init_122 rfl ?_
  refine ev_iadd dX8_init_123 ?_
  refine ev_topn (28 : Int32) (by decide) ?_
  refine ev_iconst (5 : Int32) dX8_init_124 (by decide) ?_
  refine ev_iastk (N := 371) 28 dX8_init_125 rfl rfl (by decide) ?_
  refine ev_iinc (18 : Int32) dX8_init_126 rfl (by decide) rfl rfl ?_
  refine ev_goto 110 dX8_init_129 (by decide) ?_
  refine ev_iload_n dX8_init_110 rfl ?_
  refine ev_bipush (20 : Int32) dX8_init_111 (by decide) ?_
  refine ev_icmp_ge 132 dX8_init_113 (by decide) (fun c => absurd c (by decide)) (fun _ => ?_)
  refine ev_aload_n dX8_init_116 rfl ?_
  refine ev_getR 62 lf_X8_9 dX8_init_117 rfl rfl rfl ?_
  refine ev_bipush (11 : Int32) dX8_init_120 (by decide) ?_
  refine ev_iload_n dX8_init_122 rfl ?_
  refine ev_iadd dX8_init_123 ?_
  refine ev_topn (29 : Int32) (by decide) ?_
  refine ev_iconst (5 : Int32) dX8_init_124 (by decide) ?_
  refine ev_iastk (N := 371) 29 dX8_init_125 rfl rfl (by decide) ?_
  refine ev_iinc (19 : Int32) dX8_init_126 rfl (by decide) rfl rfl ?_
  refine ev_goto 110 dX8_init_129 (by decide) ?_
  refine ev_iload_n dX8_init_110 rfl ?_
  refine ev_bipush (20 : Int32) dX8_init_111 (by decide) ?_
  refine ev_icmp_ge 132 dX8_init_113 (by decide) (fun c => absurd c (by decide)) (fun _ => ?_)
  refine ev_aload_n dX8_init_116 rfl ?_
  refine ev_getR 62 lf_X8_9 dX8_init_117 rfl rfl rfl ?_
  refine ev_bipush (11 : Int32) dX8_init_120 (by decide) ?_
  refine ev_iload_n dX8_init_122 rfl ?_
  refine ev_iadd dX8_init_123 ?_
  refine ev_topn (30 : Int32) (by decide) ?_
  refine ev_iconst (5 : Int32) dX8_init_124 (by decide) ?_
  refine ev_iastk (N := 371) 30 dX8_init_125 rfl rfl (by decide) ?_
  refine ev_iinc (20 : Int32) dX8_init_126 rfl (by decide) rfl rfl ?_
  refine ev_goto 110 dX8_init_129 (by decide) ?_
  refine ev_iload_n dX8_init_110 rfl ?_
  refine ev_bipush (20 : Int32) dX8_init_111 (by decide) ?_
  refine ev_icmp_ge 132 dX8_init_113 (by decide) (fun _ => ?_) (fun c => absurd (by decide) c)
  exact ev_vret rfl dX8_init_132 ⟨rfl, rfl, rfl⟩
