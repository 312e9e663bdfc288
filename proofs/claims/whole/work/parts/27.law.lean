abbrev ML_law : bv_M := (RL, cL_law, 4, some .boolean, false)
def bv_XL (L : Nat) (xs : Nat → Int32) : bv_Xt := fun j => match j with
  | 0 => bv_X0 0
  | 1 => bv_X0 1
  | 2 => bv_X0 2
  | 3 => some (.int, L, xs)
  | _ => none
theorem bv_XL_sub (L : Nat) (xs : Nat → Int32) : ∀ j v, bv_X0 j = some v → bv_XL L xs j = some v := by
  intro j v h
  match j, h with
  | 0, h => exact h
  | 1, h => exact h
  | 2, h => exact h
  | 3, h => cases h
  | j + 4, h => cases h
def bv_QL : Option Value → bv_Rfs → bv_Mem → Prop := fun r _ _ => r = some (.int 1)
theorem bv_inn {i L k : Nat} (h : i + k < L) (hL : L ≤ 3072) : bv_in (nI i + nI k) L = true := by
  rw [nI_add]
  unfold bv_in
  rw [nI_clamp (by omega)]
  have h1 := nI_pos (n := i + k) (by omega)
  simp [h1, h]
theorem lc_L_57 : Cond.constantLong RL 57 (4294967295) ∈ lw_tbl := List.mem_of_getElem? (i := 1226) (by decide +kernel)
theorem lk_L_100 : bv_LV RL 100 8 yX8_mutual MX8_mutual 0 := ⟨⟨List.mem_of_getElem? (i := 1079) (by decide +kernel), List.mem_of_getElem? (i := 1080) (by decide +kernel), List.mem_of_getElem? (i := 1081) (by decide +kernel), List.mem_of_getElem? (i := 80) (by decide +kernel), List.mem_of_getElem? (i := 1082) (by decide +kernel)⟩, ⟨by decide, rfl, ⟨by decide +kernel, by decide +kernel, by decide +kernel⟩⟩, by decide⟩
theorem lk_L_101 : bv_LV RL 101 7 yX7_unseen MX7_unseen 0 := ⟨⟨List.mem_of_getElem? (i := 598) (by decide +kernel), List.mem_of_getElem? (i := 599) (by decide +kernel), List.mem_of_getElem? (i := 600) (by decide +kernel), List.mem_of_getElem? (i := 72) (by decide +kernel), List.mem_of_getElem? (i := 601) (by decide +kernel)⟩, ⟨by decide, rfl, ⟨by decide +kernel, by decide +kernel, by decide +kernel⟩⟩, by decide⟩
theorem lk_L_104 : bv_LV RL 104 8 yX8_unseen MX8_unseen 0 := ⟨⟨List.mem_of_getElem? (i := 1087) (by decide +kernel), List.mem_of_getElem? (i := 1088) (by decide +kernel), List.mem_of_getElem? (i := 1089) (by decide +kernel), List.mem_of_getElem? (i := 80) (by decide +kernel), List.mem_of_getElem? (i := 1090) (by decide +kernel)⟩, ⟨by decide, rfl, ⟨by decide +kernel, by decide +kernel, by decide +kernel⟩⟩, by decide⟩
theorem lk_L_105 : bv_LV RL 105 7 yX7_cover MX7_cover 1 := ⟨⟨List.mem_of_getElem? (i := 608) (by decide +kernel), List.mem_of_getElem? (i := 609) (by decide +kernel), List.mem_of_getElem? (i := 610) (by decide +kernel), List.mem_of_getElem? (i := 72) (by decide +kernel), List.mem_of_getElem? (i := 611) (by decide +kernel)⟩, ⟨by decide, rfl, ⟨by decide +kernel, by decide +kernel, by decide +kernel⟩⟩, by decide⟩
theorem lk_L_108 : bv_LV RL 108 8 yX8_cover MX8_cover 1 := ⟨⟨List.mem_of_getElem? (i := 1091) (by decide +kernel), List.mem_of_getElem? (i := 1092) (by decide +kernel), List.mem_of_getElem? (i := 1093) (by decide +kernel), List.mem_of_getElem? (i := 80) (by decide +kernel), List.mem_of_getElem? (i := 1094) (by decide +kernel)⟩, ⟨by decide, rfl, ⟨by decide +kernel, by decide +kernel, by decide +kernel⟩⟩, by decide⟩
theorem lk_L_109 : bv_LV RL 109 7 yX7_keeps MX7_keeps 1 := ⟨⟨List.mem_of_getElem? (i := 620) (by decide +kernel), List.mem_of_getElem? (i := 621) (by decide +kernel), List.mem_of_getElem? (i := 622) (by decide +kernel), List.mem_of_getElem? (i := 72) (by decide +kernel), List.mem_of_getElem? (i := 623) (by decide +kernel)⟩, ⟨by decide, rfl, ⟨by decide +kernel, by decide +kernel, by decide +kernel⟩⟩, by decide⟩
theorem lk_L_112 : bv_LV RL 112 8 yX8_keeps MX8_keeps 1 := ⟨⟨List.mem_of_getElem? (i := 1095) (by decide +kernel), List.mem_of_getElem? (i := 1096) (by decide +kernel), List.mem_of_getElem? (i := 1097) (by decide +kernel), List.mem_of_getElem? (i := 80) (by decide +kernel), List.mem_of_getElem? (i := 1098) (by decide +kernel)⟩, ⟨by decide, rfl, ⟨by decide +kernel, by decide +kernel, by decide +kernel⟩⟩, by decide⟩
theorem lk_L_113 : bv_LV RL 113 7 yX7_blend MX7_blend 2 := ⟨⟨List.mem_of_getElem? (i := 636) (by decide +kernel), List.mem_of_getElem? (i := 637) (by decide +kernel), List.mem_of_getElem? (i := 638) (by decide +kernel), List.mem_of_getElem? (i := 72) (by decide +kernel), List.mem_of_getElem? (i := 639) (by decide +kernel)⟩, ⟨by decide, rfl, ⟨by decide +kernel, by decide +kernel, by decide +kernel⟩⟩, by decide⟩
theorem lk_L_116 : bv_LV RL 116 8 yX8_blend MX8_blend 2 := ⟨⟨List.mem_of_getElem? (i := 1103) (by decide +kernel), List.mem_of_getElem? (i := 1104) (by decide +kernel), List.mem_of_getElem? (i := 1105) (by decide +kernel), List.mem_of_getElem? (i := 80) (by decide +kernel), List.mem_of_getElem? (i := 1106) (by decide +kernel)⟩, ⟨by decide, rfl, ⟨by decide +kernel, by decide +kernel, by decide +kernel⟩⟩, by decide⟩
theorem lk_L_117 : bv_LV RL 117 7 yX7_thief MX7_thief 1 := ⟨⟨List.mem_of_getElem? (i := 640) (by decide +kernel), List.mem_of_getElem? (i := 641) (by decide +kernel), List.mem_of_getElem? (i := 642) (by decide +kernel), List.mem_of_getElem? (i := 72) (by decide +kernel), List.mem_of_getElem? (i := 643) (by decide +kernel)⟩, ⟨by decide, rfl, ⟨by decide +kernel, by decide +kernel, by decide +kernel⟩⟩, by decide⟩
theorem lk_L_12 : bv_LI RL 12 yX8_init MX8_init 0 := ⟨⟨List.mem_of_getElem? (i := 769) (by decide +kernel), List.mem_of_getElem? (i := 770) (by decide +kernel), List.mem_of_getElem? (i := 80) (by decide +kernel), List.mem_of_getElem? (i := 771) (by decide +kernel)⟩, ⟨⟨by decide +kernel, by decide +kernel, by decide +kernel⟩, rfl, rfl⟩, by decide⟩
theorem lk_L_120 : bv_LV RL 120 8 yX8_thief MX8_thief 1 := ⟨⟨List.mem_of_getElem? (i := 1107) (by decide +kernel), List.mem_of_getElem? (i := 1108) (by decide +kernel), List.mem_of_getElem? (i := 1109) (by decide +kernel), List.mem_of_getElem? (i := 80) (by decide +kernel), List.mem_of_getElem? (i := 1110) (by decide +kernel)⟩, ⟨by decide, rfl, ⟨by decide +kernel, by decide +kernel, by decide +kernel⟩⟩, by decide⟩
theorem lk_L_121 : bv_LV RL 121 7 yX7_both MX7_both 0 := ⟨⟨List.mem_of_getElem? (i := 644) (by decide +kernel), List.mem_of_getElem? (i := 645) (by decide +kernel), List.mem_of_getElem? (i := 646) (by decide +kernel), List.mem_of_getElem? (i := 72) (by decide +kernel), List.mem_of_getElem? (i := 647) (by decide +kernel)⟩, ⟨by decide, rfl, ⟨by decide +kernel, by decide +kernel, by decide +kernel⟩⟩, by decide⟩
theorem lk_L_124 : bv_LV RL 124 8 yX8_both MX8_both 0 := ⟨⟨List.mem_of_getElem? (i := 1111) (by decide +kernel), List.mem_of_getElem? (i := 1112) (by decide +kernel), List.mem_of_getElem? (i := 1113) (by decide +kernel), List.mem_of_getElem? (i := 80) (by decide +kernel), List.mem_of_getElem? (i := 1114) (by decide +kernel)⟩, ⟨by decide, rfl, ⟨by decide +kernel, by decide +kernel, by decide +kernel⟩⟩, by decide⟩
theorem lk_L_125 : bv_LV RL 125 7 yX7_seed MX7_seed 1 := ⟨⟨List.mem_of_getElem? (i := 648) (by decide +kernel), List.mem_of_getElem? (i := 649) (by decide +kernel), List.mem_of_getElem? (i := 650) (by decide +kernel), List.mem_of_getElem? (i := 72) (by decide +kernel), List.mem_of_getElem? (i := 651) (by decide +kernel)⟩, ⟨by decide, rfl, ⟨by decide +kernel, by decide +kernel, by decide +kernel⟩⟩, by decide⟩
theorem lk_L_128 : bv_LV RL 128 8 yX8_seed MX8_seed 1 := ⟨⟨List.mem_of_getElem? (i := 1115) (by decide +kernel), List.mem_of_getElem? (i := 1116) (by decide +kernel), List.mem_of_getElem? (i := 1117) (by decide +kernel), List.mem_of_getElem? (i := 80) (by decide +kernel), List.mem_of_getElem? (i := 1118) (by decide +kernel)⟩, ⟨by decide, rfl, ⟨by decide +kernel, by decide +kernel, by decide +kernel⟩⟩, by decide⟩
theorem lk_L_129 : bv_LV RL 129 7 yX7_voice MX7_voice 3 := ⟨⟨List.mem_of_getElem? (i := 652) (by decide +kernel), List.mem_of_getElem? (i := 653) (by decide +kernel), List.mem_of_getElem? (i := 654) (by decide +kernel), List.mem_of_getElem? (i := 72) (by decide +kernel), List.mem_of_getElem? (i := 655) (by decide +kernel)⟩, ⟨by decide, rfl, ⟨by decide +kernel, by decide +kernel, by decide +kernel⟩⟩, by decide⟩
theorem lk_L_13 : bv_LV RL 13 7 yX7_land MX7_land 3 := ⟨⟨List.mem_of_getElem? (i := 311) (by decide +kernel), List.mem_of_getElem? (i := 312) (by decide +kernel), List.mem_of_getElem? (i := 313) (by decide +kernel), List.mem_of_getElem? (i := 72) (by decide +kernel), List.mem_of_getElem? (i := 314) (by decide +kernel)⟩, ⟨by decide, rfl, ⟨by decide +kernel, by decide +kernel, by decide +kernel⟩⟩, by decide⟩
theorem lk_L_132 : bv_LV RL 132 8 yX8_voice MX8_voice 3 := ⟨⟨List.mem_of_getElem? (i := 1119) (by decide +kernel), List.mem_of_getElem? (i := 1120) (by decide +kernel), List.mem_of_getElem? (i := 1121) (by decide +kernel), List.mem_of_getElem? (i := 80) (by decide +kernel), List.mem_of_getElem? (i := 1122) (by decide +kernel)⟩, ⟨by decide, rfl, ⟨by decide +kernel, by decide +kernel, by decide +kernel⟩⟩, by decide⟩
theorem lk_L_133 : bv_LV RL 133 7 yX7_trace MX7_trace 1 := ⟨⟨List.mem_of_getElem? (i := 682) (by decide +kernel), List.mem_of_getElem? (i := 683) (by decide +kernel), List.mem_of_getElem? (i := 684) (by decide +kernel), List.mem_of_getElem? (i := 72) (by decide +kernel), List.mem_of_getElem? (i := 685) (by decide +kernel)⟩, ⟨by decide, rfl, ⟨by decide +kernel, by decide +kernel, by decide +kernel⟩⟩, by decide⟩
theorem lk_L_136 : bv_LV RL 136 8 yX8_trace MX8_trace 1 := ⟨⟨List.mem_of_getElem? (i := 1167) (by decide +kernel), List.mem_of_getElem? (i := 1168) (by decide +kernel), List.mem_of_getElem? (i := 1169) (by decide +kernel), List.mem_of_getElem? (i := 80) (by decide +kernel), List.mem_of_getElem? (i := 1170) (by decide +kernel)⟩, ⟨by decide, rfl, ⟨by decide +kernel, by decide +kernel, by decide +kernel⟩⟩, by decide⟩
theorem lk_L_137 : bv_LV RL 137 7 yX7_sheet MX7_sheet 3 := ⟨⟨List.mem_of_getElem? (i := 686) (by decide +kernel), List.mem_of_getElem? (i := 687) (by decide +kernel), List.mem_of_getElem? (i := 688) (by decide +kernel), List.mem_of_getElem? (i := 72) (by decide +kernel), List.mem_of_getElem? (i := 689) (by decide +kernel)⟩, ⟨by decide, rfl, ⟨by decide +kernel, by decide +kernel, by decide +kernel⟩⟩, by decide⟩
theorem lk_L_140 : bv_LV RL 140 8 yX8_sheet MX8_sheet 3 := ⟨⟨List.mem_of_getElem? (i := 1171) (by decide +kernel), List.mem_of_getElem? (i := 1172) (by decide +kernel), List.mem_of_getElem? (i := 1173) (by decide +kernel), List.mem_of_getElem? (i := 80) (by decide +kernel), List.mem_of_getElem? (i := 1174) (by decide +kernel)⟩, ⟨by decide, rfl, ⟨by decide +kernel, by decide +kernel, by decide +kernel⟩⟩, by decide⟩
theorem lk_L_141 : bv_LV RL 141 7 yX7_put MX7_put 3 := ⟨⟨List.mem_of_getElem? (i := 697) (by decide +kernel), List.mem_of_getElem? (i := 698) (by decide +kernel), List.mem_of_getElem? (i := 699) (by decide +kernel), List.mem_of_getElem? (i := 72) (by decide +kernel), List.mem_of_getElem? (i := 700) (by decide +kernel)⟩, ⟨by decide, rfl, ⟨by decide +kernel, by decide +kernel, by decide +kernel⟩⟩, by decide⟩
theorem lk_L_144 : bv_LV RL 144 8 yX8_put MX8_put 3 := ⟨⟨List.mem_of_getElem? (i := 1178) (by decide +kernel), List.mem_of_getElem? (i := 1179) (by decide +kernel), List.mem_of_getElem? (i := 1180) (by decide +kernel), List.mem_of_getElem? (i := 80) (by decide +kernel), List.mem_of_getElem? (i := 1181) (by decide +kernel)⟩, ⟨by decide, rfl, ⟨by decide +kernel, by decide +kernel, by decide +kernel⟩⟩, by decide⟩
theorem lk_L_145 : bv_LV RL 145 7 yX7_move MX7_move 5 := ⟨⟨List.mem_of_getElem? (i := 706) (by decide +kernel), List.mem_of_getElem? (i := 707) (by decide +kernel), List.mem_of_getElem? (i := 708) (by decide +kernel), List.mem_of_getElem? (i := 72) (by decide +kernel), List.mem_of_getElem? (i := 709) (by decide +kernel)⟩, ⟨by decide, rfl, ⟨by decide +kernel, by decide +kernel, by decide +kernel⟩⟩, by decide⟩
theorem lk_L_149 : bv_LV RL 149 8 yX8_move MX8_move 5 := ⟨⟨List.mem_of_getElem? (i := 1186) (by decide +kernel), List.mem_of_getElem? (i := 1187) (by decide +kernel), List.mem_of_getElem? (i := 1188) (by decide +kernel), List.mem_of_getElem? (i := 80) (by decide +kernel), List.mem_of_getElem? (i := 1189) (by decide +kernel)⟩, ⟨by decide, rfl, ⟨by decide +kernel, by decide +kernel, by decide +kernel⟩⟩, by decide⟩
theorem lk_L_150 : bv_LV RL 150 7 yX7_heights MX7_heights 1 := ⟨⟨List.mem_of_getElem? (i := 715) (by decide +kernel), List.mem_of_getElem? (i := 716) (by decide +kernel), List.mem_of_getElem? (i := 717) (by decide +kernel), List.mem_of_getElem? (i := 72) (by decide +kernel), List.mem_of_getElem? (i := 718) (by decide +kernel)⟩, ⟨by decide, rfl, ⟨by decide +kernel, by decide +kernel, by decide +kernel⟩⟩, by decide⟩
theorem lk_L_153 : bv_LV RL 153 8 yX8_heights MX8_heights 1 := ⟨⟨List.mem_of_getElem? (i := 1194) (by decide +kernel), List.mem_of_getElem? (i := 1195) (by decide +kernel), List.mem_of_getElem? (i := 1196) (by decide +kernel), List.mem_of_getElem? (i := 80) (by decide +kernel), List.mem_of_getElem? (i := 1197) (by decide +kernel)⟩, ⟨by decide, rfl, ⟨by decide +kernel, by decide +kernel, by decide +kernel⟩⟩, by decide⟩
theorem lk_L_154 : bv_LV RL 154 7 yX7_judge MX7_judge 1 := ⟨⟨List.mem_of_getElem? (i := 719) (by decide +kernel), List.mem_of_getElem? (i := 720) (by decide +kernel), List.mem_of_getElem? (i := 721) (by decide +kernel), List.mem_of_getElem? (i := 72) (by decide +kernel), List.mem_of_getElem? (i := 722) (by decide +kernel)⟩, ⟨by decide, rfl, ⟨by decide +kernel, by decide +kernel, by decide +kernel⟩⟩, by decide⟩
theorem lk_L_157 : bv_LV RL 157 8 yX8_judge MX8_judge 1 := ⟨⟨List.mem_of_getElem? (i := 1198) (by decide +kernel), List.mem_of_getElem? (i := 1199) (by decide +kernel), List.mem_of_getElem? (i := 1200) (by decide +kernel), List.mem_of_getElem? (i := 80) (by decide +kernel), List.mem_of_getElem? (i := 1201) (by decide +kernel)⟩, ⟨by decide, rfl, ⟨by decide +kernel, by decide +kernel, by decide +kernel⟩⟩, by decide⟩
theorem lk_L_158 : bv_LV RL 158 7 yX7_image MX7_image 0 := ⟨⟨List.mem_of_getElem? (i := 723) (by decide +kernel), List.mem_of_getElem? (i := 724) (by decide +kernel), List.mem_of_getElem? (i := 725) (by decide +kernel), List.mem_of_getElem? (i := 72) (by decide +kernel), List.mem_of_getElem? (i := 726) (by decide +kernel)⟩, ⟨by decide, rfl, ⟨by decide +kernel, by decide +kernel, by decide +kernel⟩⟩, by decide⟩
theorem lk_L_161 : bv_LV RL 161 8 yX8_image MX8_image 0 := ⟨⟨List.mem_of_getElem? (i := 1202) (by decide +kernel), List.mem_of_getElem? (i := 1203) (by decide +kernel), List.mem_of_getElem? (i := 1204) (by decide +kernel), List.mem_of_getElem? (i := 80) (by decide +kernel), List.mem_of_getElem? (i := 1205) (by decide +kernel)⟩, ⟨by decide, rfl, ⟨by decide +kernel, by decide +kernel, by decide +kernel⟩⟩, by decide⟩
theorem lk_L_162 : bv_LV RL 162 7 yX7_restore MX7_restore 0 := ⟨⟨List.mem_of_getElem? (i := 742) (by decide +kernel), List.mem_of_getElem? (i := 743) (by decide +kernel), List.mem_of_getElem? (i := 744) (by decide +kernel), List.mem_of_getElem? (i := 72) (by decide +kernel), List.mem_of_getElem? (i := 745) (by decide +kernel)⟩, ⟨by decide, rfl, ⟨by decide +kernel, by decide +kernel, by decide +kernel⟩⟩, by decide⟩
theorem lk_L_165 : bv_LV RL 165 8 yX8_restore MX8_restore 0 := ⟨⟨List.mem_of_getElem? (i := 1206) (by decide +kernel), List.mem_of_getElem? (i := 1207) (by decide +kernel), List.mem_of_getElem? (i := 1208) (by decide +kernel), List.mem_of_getElem? (i := 80) (by decide +kernel), List.mem_of_getElem? (i := 1209) (by decide +kernel)⟩, ⟨by decide, rfl, ⟨by decide +kernel, by decide +kernel, by decide +kernel⟩⟩, by decide⟩
theorem lk_L_166 : bv_LV RL 166 7 yX7_tell MX7_tell 1 := ⟨⟨List.mem_of_getElem? (i := 746) (by decide +kernel), List.mem_of_getElem? (i := 747) (by decide +kernel), List.mem_of_getElem? (i := 748) (by decide +kernel), List.mem_of_getElem? (i := 72) (by decide +kernel), List.mem_of_getElem? (i := 749) (by decide +kernel)⟩, ⟨by decide, rfl, ⟨by decide +kernel, by decide +kernel, by decide +kernel⟩⟩, by decide⟩
theorem lk_L_169 : bv_LV RL 169 8 yX8_tell MX8_tell 1 := ⟨⟨List.mem_of_getElem? (i := 1210) (by decide +kernel), List.mem_of_getElem? (i := 1211) (by decide +kernel), List.mem_of_getElem? (i := 1212) (by decide +kernel), List.mem_of_getElem? (i := 80) (by decide +kernel), List.mem_of_getElem? (i := 1213) (by decide +kernel)⟩, ⟨by decide, rfl, ⟨by decide +kernel, by decide +kernel, by decide +kernel⟩⟩, by decide⟩
theorem lk_L_17 : bv_LV RL 17 8 yX8_land MX8_land 3 := ⟨⟨List.mem_of_getElem? (i := 831) (by decide +kernel), List.mem_of_getElem? (i := 832) (by decide +kernel), List.mem_of_getElem? (i := 833) (by decide +kernel), List.mem_of_getElem? (i := 80) (by decide +kernel), List.mem_of_getElem? (i := 834) (by decide +kernel)⟩, ⟨by decide, rfl, ⟨by decide +kernel, by decide +kernel, by decide +kernel⟩⟩, by decide⟩
theorem lk_L_170 : bv_LV RL 170 7 yX7_check MX7_check 0 := ⟨⟨List.mem_of_getElem? (i := 750) (by decide +kernel), List.mem_of_getElem? (i := 751) (by decide +kernel), List.mem_of_getElem? (i := 752) (by decide +kernel), List.mem_of_getElem? (i := 72) (by decide +kernel), List.mem_of_getElem? (i := 753) (by decide +kernel)⟩, ⟨by decide, rfl, ⟨by decide +kernel, by decide +kernel, by decide +kernel⟩⟩, by decide⟩
theorem lk_L_173 : bv_LV RL 173 8 yX8_check MX8_check 0 := ⟨⟨List.mem_of_getElem? (i := 1214) (by decide +kernel), List.mem_of_getElem? (i := 1215) (by decide +kernel), List.mem_of_getElem? (i := 1216) (by decide +kernel), List.mem_of_getElem? (i := 80) (by decide +kernel), List.mem_of_getElem? (i := 1217) (by decide +kernel)⟩, ⟨by decide, rfl, ⟨by decide +kernel, by decide +kernel, by decide +kernel⟩⟩, by decide⟩
theorem lk_L_174 : bv_LV RL 174 7 yX7_count MX7_count 1 := ⟨⟨List.mem_of_getElem? (i := 754) (by decide +kernel), List.mem_of_getElem? (i := 755) (by decide +kernel), List.mem_of_getElem? (i := 756) (by decide +kernel), List.mem_of_getElem? (i := 72) (by decide +kernel), List.mem_of_getElem? (i := 757) (by decide +kernel)⟩, ⟨by decide, rfl, ⟨by decide +kernel, by decide +kernel, by decide +kernel⟩⟩, by decide⟩
theorem lk_L_177 : bv_LV RL 177 8 yX8_count MX8_count 1 := ⟨⟨List.mem_of_getElem? (i := 1218) (by decide +kernel), List.mem_of_getElem? (i := 1219) (by decide +kernel), List.mem_of_getElem? (i := 1220) (by decide +kernel), List.mem_of_getElem? (i := 80) (by decide +kernel), List.mem_of_getElem? (i := 1221) (by decide +kernel)⟩, ⟨by decide, rfl, ⟨by decide +kernel, by decide +kernel, by decide +kernel⟩⟩, by decide⟩
theorem lk_L_178 : bv_LV RL 178 7 yX7_told MX7_told 1 := ⟨⟨List.mem_of_getElem? (i := 763) (by decide +kernel), List.mem_of_getElem? (i := 764) (by decide +kernel), List.mem_of_getElem? (i := 765) (by decide +kernel), List.mem_of_getElem? (i := 72) (by decide +kernel), List.mem_of_getElem? (i := 766) (by decide +kernel)⟩, ⟨by decide, rfl, ⟨by decide +kernel, by decide +kernel, by decide +kernel⟩⟩, by decide⟩
theorem lk_L_18 : bv_LV RL 18 7 yX7_ofPlace MX7_ofPlace 2 := ⟨⟨List.mem_of_getElem? (i := 326) (by decide +kernel), List.mem_of_getElem? (i := 327) (by decide +kernel), List.mem_of_getElem? (i := 328) (by decide +kernel), List.mem_of_getElem? (i := 72) (by decide +kernel), List.mem_of_getElem? (i := 329) (by decide +kernel)⟩, ⟨by decide, rfl, ⟨by decide +kernel, by decide +kernel, by decide +kernel⟩⟩, by decide⟩
theorem lk_L_181 : bv_LV RL 181 8 yX8_told MX8_told 1 := ⟨⟨List.mem_of_getElem? (i := 1222) (by decide +kernel), List.mem_of_getElem? (i := 1223) (by decide +kernel), List.mem_of_getElem? (i := 1224) (by decide +kernel), List.mem_of_getElem? (i := 80) (by decide +kernel), List.mem_of_getElem? (i := 1225) (by decide +kernel)⟩, ⟨by decide, rfl, ⟨by decide +kernel, by decide +kernel, by decide +kernel⟩⟩, by decide⟩
theorem lk_L_22 : bv_LV RL 22 8 yX8_ofPlace MX8_ofPlace 2 := ⟨⟨List.mem_of_getElem? (i := 851) (by decide +kernel), List.mem_of_getElem? (i := 852) (by decide +kernel), List.mem_of_getElem? (i := 853) (by decide +kernel), List.mem_of_getElem? (i := 80) (by decide +kernel), List.mem_of_getElem? (i := 854) (by decide +kernel)⟩, ⟨by decide, rfl, ⟨by decide +kernel, by decide +kernel, by decide +kernel⟩⟩, by decide⟩
theorem lk_L_23 : bv_LV RL 23 7 yX7_village MX7_village 1 := ⟨⟨List.mem_of_getElem? (i := 360) (by decide +kernel), List.mem_of_getElem? (i := 361) (by decide +kernel), List.mem_of_getElem? (i := 362) (by decide +kernel), List.mem_of_getElem? (i := 72) (by decide +kernel), List.mem_of_getElem? (i := 363) (by decide +kernel)⟩, ⟨by decide, rfl, ⟨by decide +kernel, by decide +kernel, by decide +kernel⟩⟩, by decide⟩
theorem lk_L_27 : bv_LV RL 27 8 yX8_village MX8_village 1 := ⟨⟨List.mem_of_getElem? (i := 881) (by decide +kernel), List.mem_of_getElem? (i := 882) (by decide +kernel), List.mem_of_getElem? (i := 883) (by decide +kernel), List.mem_of_getElem? (i := 80) (by decide +kernel), List.mem_of_getElem? (i := 884) (by decide +kernel)⟩, ⟨by decide, rfl, ⟨by decide +kernel, by decide +kernel, by decide +kernel⟩⟩, by decide⟩
theorem lk_L_28 : bv_LV RL 28 7 yX7_moves MX7_moves 2 := ⟨⟨List.mem_of_getElem? (i := 364) (by decide +kernel), List.mem_of_getElem? (i := 365) (by decide +kernel), List.mem_of_getElem? (i := 366) (by decide +kernel), List.mem_of_getElem? (i := 72) (by decide +kernel), List.mem_of_getElem? (i := 367) (by decide +kernel)⟩, ⟨by decide, rfl, ⟨by decide +kernel, by decide +kernel, by decide +kernel⟩⟩, by decide⟩
theorem lk_L_31 : bv_LV RL 31 8 yX8_moves MX8_moves 2 := ⟨⟨List.mem_of_getElem? (i := 886) (by decide +kernel), List.mem_of_getElem? (i := 887) (by decide +kernel), List.mem_of_getElem? (i := 888) (by decide +kernel), List.mem_of_getElem? (i := 80) (by decide +kernel), List.mem_of_getElem? (i := 889) (by decide +kernel)⟩, ⟨by decide, rfl, ⟨by decide +kernel, by decide +kernel, by decide +kernel⟩⟩, by decide⟩
theorem lk_L_32 : bv_LV RL 32 7 yX7_at MX7_at 1 := ⟨⟨List.mem_of_getElem? (i := 372) (by decide +kernel), List.mem_of_getElem? (i := 373) (by decide +kernel), List.mem_of_getElem? (i := 374) (by decide +kernel), List.mem_of_getElem? (i := 72) (by decide +kernel), List.mem_of_getElem? (i := 375) (by decide +kernel)⟩, ⟨by decide, rfl, ⟨by decide +kernel, by decide +kernel, by decide +kernel⟩⟩, by decide⟩
theorem lk_L_35 : bv_LV RL 35 8 yX8_at MX8_at 1 := ⟨⟨List.mem_of_getElem? (i := 894) (by decide +kernel), List.mem_of_getElem? (i := 895) (by decide +kernel), List.mem_of_getElem? (i := 896) (by decide +kernel), List.mem_of_getElem? (i := 80) (by decide +kernel), List.mem_of_getElem? (i := 897) (by decide +kernel)⟩, ⟨by decide, rfl, ⟨by decide +kernel, by decide +kernel, by decide +kernel⟩⟩, by decide⟩
theorem lk_L_36 : bv_LV RL 36 7 yX7_fill MX7_fill 4 := ⟨⟨List.mem_of_getElem? (i := 376) (by decide +kernel), List.mem_of_getElem? (i := 377) (by decide +kernel), List.mem_of_getElem? (i := 378) (by decide +kernel), List.mem_of_getElem? (i := 72) (by decide +kernel), List.mem_of_getElem? (i := 379) (by decide +kernel)⟩, ⟨by decide, rfl, ⟨by decide +kernel, by decide +kernel, by decide +kernel⟩⟩, by decide⟩
theorem lk_L_40 : bv_LV RL 40 8 yX8_fill MX8_fill 4 := ⟨⟨List.mem_of_getElem? (i := 898) (by decide +kernel), List.mem_of_getElem? (i := 899) (by decide +kernel), List.mem_of_getElem? (i := 900) (by decide +kernel), List.mem_of_getElem? (i := 80) (by decide +kernel), List.mem_of_getElem? (i := 901) (by decide +kernel)⟩, ⟨by decide, rfl, ⟨by decide +kernel, by decide +kernel, by decide +kernel⟩⟩, by decide⟩
theorem lk_L_41 : bv_LV RL 41 7 yX7_ofBottle MX7_ofBottle 2 := ⟨⟨List.mem_of_getElem? (i := 451) (by decide +kernel), List.mem_of_getElem? (i := 452) (by decide +kernel), List.mem_of_getElem? (i := 453) (by decide +kernel), List.mem_of_getElem? (i := 72) (by decide +kernel), List.mem_of_getElem? (i := 454) (by decide +kernel)⟩, ⟨by decide, rfl, ⟨by decide +kernel, by decide +kernel, by decide +kernel⟩⟩, by decide⟩
theorem lk_L_44 : bv_LV RL 44 8 yX8_ofBottle MX8_ofBottle 2 := ⟨⟨List.mem_of_getElem? (i := 925) (by decide +kernel), List.mem_of_getElem? (i := 926) (by decide +kernel), List.mem_of_getElem? (i := 927) (by decide +kernel), List.mem_of_getElem? (i := 80) (by decide +kernel), List.mem_of_getElem? (i := 928) (by decide +kernel)⟩, ⟨by decide, rfl, ⟨by decide +kernel, by decide +kernel, by decide +kernel⟩⟩, by decide⟩
theorem lk_L_45 : bv_LV RL 45 7 yX7_become MX7_become 2 := ⟨⟨List.mem_of_getElem? (i := 487) (by decide +kernel), List.mem_of_getElem? (i := 488) (by decide +kernel), List.mem_of_getElem? (i := 489) (by decide +kernel), List.mem_of_getElem? (i := 72) (by decide +kernel), List.mem_of_getElem? (i := 490) (by decide +kernel)⟩, ⟨by decide, rfl, ⟨by decide +kernel, by decide +kernel, by decide +kernel⟩⟩, by decide⟩
theorem lk_L_48 : bv_LV RL 48 8 yX8_become MX8_become 2 := ⟨⟨List.mem_of_getElem? (i := 953) (by decide +kernel), List.mem_of_getElem? (i := 954) (by decide +kernel), List.mem_of_getElem? (i := 955) (by decide +kernel), List.mem_of_getElem? (i := 80) (by decide +kernel), List.mem_of_getElem? (i := 956) (by decide +kernel)⟩, ⟨by decide, rfl, ⟨by decide +kernel, by decide +kernel, by decide +kernel⟩⟩, by decide⟩
theorem lk_L_49 : bv_LV RL 49 7 yX7_as MX7_as 2 := ⟨⟨List.mem_of_getElem? (i := 492) (by decide +kernel), List.mem_of_getElem? (i := 493) (by decide +kernel), List.mem_of_getElem? (i := 494) (by decide +kernel), List.mem_of_getElem? (i := 72) (by decide +kernel), List.mem_of_getElem? (i := 495) (by decide +kernel)⟩, ⟨by decide, rfl, ⟨by decide +kernel, by decide +kernel, by decide +kernel⟩⟩, by decide⟩
theorem lk_L_52 : bv_LV RL 52 8 yX8_as MX8_as 2 := ⟨⟨List.mem_of_getElem? (i := 957) (by decide +kernel), List.mem_of_getElem? (i := 958) (by decide +kernel), List.mem_of_getElem? (i := 959) (by decide +kernel), List.mem_of_getElem? (i := 80) (by decide +kernel), List.mem_of_getElem? (i := 960) (by decide +kernel)⟩, ⟨by decide, rfl, ⟨by decide +kernel, by decide +kernel, by decide +kernel⟩⟩, by decide⟩
theorem lk_L_53 : bv_LV RL 53 7 yX7_open MX7_open 1 := ⟨⟨List.mem_of_getElem? (i := 502) (by decide +kernel), List.mem_of_getElem? (i := 503) (by decide +kernel), List.mem_of_getElem? (i := 504) (by decide +kernel), List.mem_of_getElem? (i := 72) (by decide +kernel), List.mem_of_getElem? (i := 505) (by decide +kernel)⟩, ⟨by decide, rfl, ⟨by decide +kernel, by decide +kernel, by decide +kernel⟩⟩, by decide⟩
theorem lk_L_56 : bv_LV RL 56 8 yX8_open MX8_open 1 := ⟨⟨List.mem_of_getElem? (i := 965) (by decide +kernel), List.mem_of_getElem? (i := 966) (by decide +kernel), List.mem_of_getElem? (i := 967) (by decide +kernel), List.mem_of_getElem? (i := 80) (by decide +kernel), List.mem_of_getElem? (i := 968) (by decide +kernel)⟩, ⟨by decide, rfl, ⟨by decide +kernel, by decide +kernel, by decide +kernel⟩⟩, by decide⟩
theorem lk_L_59 : bv_LV RL 59 7 yX7_feed MX7_feed 2 := ⟨⟨List.mem_of_getElem? (i := 510) (by decide +kernel), List.mem_of_getElem? (i := 511) (by decide +kernel), List.mem_of_getElem? (i := 512) (by decide +kernel), List.mem_of_getElem? (i := 72) (by decide +kernel), List.mem_of_getElem? (i := 513) (by decide +kernel)⟩, ⟨by decide, rfl, ⟨by decide +kernel, by decide +kernel, by decide +kernel⟩⟩, by decide⟩
theorem lk_L_63 : bv_LV RL 63 8 yX8_feed MX8_feed 2 := ⟨⟨List.mem_of_getElem? (i := 969) (by decide +kernel), List.mem_of_getElem? (i := 970) (by decide +kernel), List.mem_of_getElem? (i := 971) (by decide +kernel), List.mem_of_getElem? (i := 80) (by decide +kernel), List.mem_of_getElem? (i := 972) (by decide +kernel)⟩, ⟨by decide, rfl, ⟨by decide +kernel, by decide +kernel, by decide +kernel⟩⟩, by decide⟩
theorem lk_L_64 : bv_LV RL 64 7 yX7_text MX7_text 1 := ⟨⟨List.mem_of_getElem? (i := 518) (by decide +kernel), List.mem_of_getElem? (i := 519) (by decide +kernel), List.mem_of_getElem? (i := 520) (by decide +kernel), List.mem_of_getElem? (i := 72) (by decide +kernel), List.mem_of_getElem? (i := 521) (by decide +kernel)⟩, ⟨by decide, rfl, ⟨by decide +kernel, by decide +kernel, by decide +kernel⟩⟩, by decide⟩
theorem lk_L_67 : bv_LV RL 67 8 yX8_text MX8_text 1 := ⟨⟨List.mem_of_getElem? (i := 974) (by decide +kernel), List.mem_of_getElem? (i := 975) (by decide +kernel), List.mem_of_getElem? (i := 976) (by decide +kernel), List.mem_of_getElem? (i := 80) (by decide +kernel), List.mem_of_getElem? (i := 977) (by decide +kernel)⟩, ⟨by decide, rfl, ⟨by decide +kernel, by decide +kernel, by decide +kernel⟩⟩, by decide⟩
theorem lk_L_68 : bv_LV RL 68 7 yX7_law MX7_law 4 := ⟨⟨List.mem_of_getElem? (i := 537) (by decide +kernel), List.mem_of_getElem? (i := 538) (by decide +kernel), List.mem_of_getElem? (i := 539) (by decide +kernel), List.mem_of_getElem? (i := 72) (by decide +kernel), List.mem_of_getElem? (i := 540) (by decide +kernel)⟩, ⟨by decide, rfl, ⟨by decide +kernel, by decide +kernel, by decide +kernel⟩⟩, by decide⟩
theorem lk_L_71 : bv_LV RL 71 8 yX8_law MX8_law 4 := ⟨⟨List.mem_of_getElem? (i := 1022) (by decide +kernel), List.mem_of_getElem? (i := 1023) (by decide +kernel), List.mem_of_getElem? (i := 1024) (by decide +kernel), List.mem_of_getElem? (i := 80) (by decide +kernel), List.mem_of_getElem? (i := 1025) (by decide +kernel)⟩, ⟨by decide, rfl, ⟨by decide +kernel, by decide +kernel, by decide +kernel⟩⟩, by decide⟩
theorem lk_L_72 : bv_LV RL 72 7 yX7_days MX7_days 1 := ⟨⟨List.mem_of_getElem? (i := 541) (by decide +kernel), List.mem_of_getElem? (i := 542) (by decide +kernel), List.mem_of_getElem? (i := 543) (by decide +kernel), List.mem_of_getElem? (i := 72) (by decide +kernel), List.mem_of_getElem? (i := 544) (by decide +kernel)⟩, ⟨by decide, rfl, ⟨by decide +kernel, by decide +kernel, by decide +kernel⟩⟩, by decide⟩
theorem lk_L_75 : bv_LV RL 75 8 yX8_days MX8_days 1 := ⟨⟨List.mem_of_getElem? (i := 1026) (by decide +kernel), List.mem_of_getElem? (i := 1027) (by decide +kernel), List.mem_of_getElem? (i := 1028) (by decide +kernel), List.mem_of_getElem? (i := 80) (by decide +kernel), List.mem_of_getElem? (i := 1029) (by decide +kernel)⟩, ⟨by decide, rfl, ⟨by decide +kernel, by decide +kernel, by decide +kernel⟩⟩, by decide⟩
theorem lk_L_76 : bv_LV RL 76 7 yX7_loose MX7_loose 1 := ⟨⟨List.mem_of_getElem? (i := 563) (by decide +kernel), List.mem_of_getElem? (i := 564) (by decide +kernel), List.mem_of_getElem? (i := 565) (by decide +kernel), List.mem_of_getElem? (i := 72) (by decide +kernel), List.mem_of_getElem? (i := 566) (by decide +kernel)⟩, ⟨by decide, rfl, ⟨by decide +kernel, by decide +kernel, by decide +kernel⟩⟩, by decide⟩
theorem lk_L_79 : bv_LV RL 79 8 yX8_loose MX8_loose 1 := ⟨⟨List.mem_of_getElem? (i := 1042) (by decide +kernel), List.mem_of_getElem? (i := 1043) (by decide +kernel), List.mem_of_getElem? (i := 1044) (by decide +kernel), List.mem_of_getElem? (i := 80) (by decide +kernel), List.mem_of_getElem? (i := 1045) (by decide +kernel)⟩, ⟨by decide, rfl, ⟨by decide +kernel, by decide +kernel, by decide +kernel⟩⟩, by decide⟩
theorem lk_L_80 : bv_LV RL 80 7 yX7_view MX7_view 3 := ⟨⟨List.mem_of_getElem? (i := 577) (by decide +kernel), List.mem_of_getElem? (i := 578) (by decide +kernel), List.mem_of_getElem? (i := 579) (by decide +kernel), List.mem_of_getElem? (i := 72) (by decide +kernel), List.mem_of_getElem? (i := 580) (by decide +kernel)⟩, ⟨by decide, rfl, ⟨by decide +kernel, by decide +kernel, by decide +kernel⟩⟩, by decide⟩
theorem lk_L_83 : bv_LV RL 83 8 yX8_view MX8_view 3 := ⟨⟨List.mem_of_getElem? (i := 1051) (by decide +kernel), List.mem_of_getElem? (i := 1052) (by decide +kernel), List.mem_of_getElem? (i := 1053) (by decide +kernel), List.mem_of_getElem? (i := 80) (by decide +kernel), List.mem_of_getElem? (i := 1054) (by decide +kernel)⟩, ⟨by decide, rfl, ⟨by decide +kernel, by decide +kernel, by decide +kernel⟩⟩, by decide⟩
theorem lk_L_84 : bv_LV RL 84 7 yX7_again MX7_again 2 := ⟨⟨List.mem_of_getElem? (i := 581) (by decide +kernel), List.mem_of_getElem? (i := 582) (by decide +kernel), List.mem_of_getElem? (i := 583) (by decide +kernel), List.mem_of_getElem? (i := 72) (by decide +kernel), List.mem_of_getElem? (i := 584) (by decide +kernel)⟩, ⟨by decide, rfl, ⟨by decide +kernel, by decide +kernel, by decide +kernel⟩⟩, by decide⟩
theorem lk_L_87 : bv_LV RL 87 8 yX8_again MX8_again 2 := ⟨⟨List.mem_of_getElem? (i := 1066) (by decide +kernel), List.mem_of_getElem? (i := 1067) (by decide +kernel), List.mem_of_getElem? (i := 1068) (by decide +kernel), List.mem_of_getElem? (i := 80) (by decide +kernel), List.mem_of_getElem? (i := 1069) (by decide +kernel)⟩, ⟨by decide, rfl, ⟨by decide +kernel, by decide +kernel, by decide +kernel⟩⟩, by decide⟩
theorem lk_L_88 : bv_LV RL 88 7 yX7_best MX7_best 1 := ⟨⟨List.mem_of_getElem? (i := 586) (by decide +kernel), List.mem_of_getElem? (i := 587) (by decide +kernel), List.mem_of_getElem? (i := 588) (by decide +kernel), List.mem_of_getElem? (i := 72) (by decide +kernel), List.mem_of_getElem? (i := 589) (by decide +kernel)⟩, ⟨by decide, rfl, ⟨by decide +kernel, by decide +kernel, by decide +kernel⟩⟩, by decide⟩
theorem lk_L_9 : bv_LI RL 9 yX7_init MX7_init 0 := ⟨⟨List.mem_of_getElem? (i := 86) (by decide +kernel), List.mem_of_getElem? (i := 87) (by decide +kernel), List.mem_of_getElem? (i := 72) (by decide +kernel), List.mem_of_getElem? (i := 88) (by decide +kernel)⟩, ⟨⟨by decide +kernel, by decide +kernel, by decide +kernel⟩, rfl, rfl⟩, by decide⟩
theorem lk_L_91 : bv_LV RL 91 8 yX8_best MX8_best 1 := ⟨⟨List.mem_of_getElem? (i := 1071) (by decide +kernel), List.mem_of_getElem? (i := 1072) (by decide +kernel), List.mem_of_getElem? (i := 1073) (by decide +kernel), List.mem_of_getElem? (i := 80) (by decide +kernel), List.mem_of_getElem? (i := 1074) (by decide +kernel)⟩, ⟨by decide, rfl, ⟨by decide +kernel, by decide +kernel, by decide +kernel⟩⟩, by decide⟩
theorem lk_L_92 : bv_LV RL 92 7 yX7_tower MX7_tower 2 := ⟨⟨List.mem_of_getElem? (i := 590) (by decide +kernel), List.mem_of_getElem? (i := 591) (by decide +kernel), List.mem_of_getElem? (i := 592) (by decide +kernel), List.mem_of_getElem? (i := 72) (by decide +kernel), List.mem_of_getElem? (i := 593) (by decide +kernel)⟩, ⟨by decide, rfl, ⟨by decide +kernel, by decide +kernel, by decide +kernel⟩⟩, by decide⟩
theorem lk_L_95 : bv_LV RL 95 8 yX8_tower MX8_tower 2 := ⟨⟨List.mem_of_getElem? (i := 1075) (by decide +kernel), List.mem_of_getElem? (i := 1076) (by decide +kernel), List.mem_of_getElem? (i := 1077) (by decide +kernel), List.mem_of_getElem? (i := 80) (by decide +kernel), List.mem_of_getElem? (i := 1078) (by decide +kernel)⟩, ⟨by decide, rfl, ⟨by decide +kernel, by decide +kernel, by decide +kernel⟩⟩, by decide⟩
theorem lk_L_96 : bv_LV RL 96 7 yX7_mutual MX7_mutual 0 := ⟨⟨List.mem_of_getElem? (i := 594) (by decide +kernel), List.mem_of_getElem? (i := 595) (by decide +kernel), List.mem_of_getElem? (i := 596) (by decide +kernel), List.mem_of_getElem? (i := 72) (by decide +kernel), List.mem_of_getElem? (i := 597) (by decide +kernel)⟩, ⟨by decide, rfl, ⟨by decide +kernel, by decide +kernel, by decide +kernel⟩⟩, by decide⟩
def bv_S_land (I : bv_Mem → Prop) : Prop := ∀ (a1 : Int32) (a2 : Int32) (a3 : Int32) (mi : bv_Mem), I mi → ∃ (r : Int32) (m1 m2 : bv_Mem), f_X7_land a1 a2 a3 mi = some (r, m1) ∧ f_X8_land a1 a2 a3 m1 = some (r, m2) ∧ I m2
def bv_S_ofPlace (I : bv_Mem → Prop) : Prop := ∀ (a1 : Int32) (a2 : Int32) (mi : bv_Mem), I mi → ∃ (r : Int32) (m1 m2 : bv_Mem), f_X7_ofPlace a1 a2 mi = some (r, m1) ∧ f_X8_ofPlace a1 a2 m1 = some (r, m2) ∧ I m2
def bv_S_village (I : bv_Mem → Prop) : Prop := ∀ (a1 : Int32) (mi : bv_Mem), I mi → ∃ (r : Int32) (m1 m2 : bv_Mem), f_X7_village a1 mi = some (r, m1) ∧ f_X8_village a1 m1 = some (r, m2) ∧ I m2
def bv_S_moves (I : bv_Mem → Prop) : Prop := ∀ (a1 : Int32) (a2 : Int32) (mi : bv_Mem), I mi → ∃ (r : Int32) (m1 m2 : bv_Mem), f_X7_moves a1 a2 mi = some (r, m1) ∧ f_X8_moves a1 a2 m1 = some (r, m2) ∧ I m2
def bv_S_at (I : bv_Mem → Prop) : Prop := ∀ (a1 : Int32) (mi : bv_Mem), I mi → ∃ (r : Int32) (m1 m2 : bv_Mem), f_X7_at a1 mi = some (r, m1) ∧ f_X8_at a1 m1 = some (r, m2) ∧ I m2
def bv_S_fill (I : bv_Mem → Prop) : Prop := ∀ (a1 : Int32) (a2 : Int32) (a3 : Int32) (a4 : Int32) (mi : bv_Mem), I mi → ∃ (r : Int32) (m1 m2 : bv_Mem), f_X7_fill a1 a2 a3 a4 mi = some (r, m1) ∧ f_X8_fill a1 a2 a3 a4 m1 = some (r, m2) ∧ I m2
def bv_S_ofBottle (I : bv_Mem → Prop) : Prop := ∀ (a1 : Int32) (a2 : Int32) (mi : bv_Mem), I mi → ∃ (r : Int32) (m1 m2 : bv_Mem), f_X7_ofBottle a1 a2 mi = some (r, m1) ∧ f_X8_ofBottle a1 a2 m1 = some (r, m2) ∧ I m2
def bv_S_become (I : bv_Mem → Prop) : Prop := ∀ (a1 : Int32) (a2 : Int32) (mi : bv_Mem), I mi → ∃ (r : Int32) (m1 m2 : bv_Mem), f_X7_become a1 a2 mi = some (r, m1) ∧ f_X8_become a1 a2 m1 = some (r, m2) ∧ I m2
def bv_S_as (I : bv_Mem → Prop) : Prop := ∀ (a1 : Int32) (a2 : Int32) (mi : bv_Mem), I mi → ∃ (r : Int32) (m1 m2 : bv_Mem), f_X7_as a1 a2 mi = some (r, m1) ∧ f_X8_as a1 a2 m1 = some (r, m2) ∧ I m2
def bv_S_open (I : bv_Mem → Prop) : Prop := ∀ (a1 : Int32) (mi : bv_Mem), I mi → ∃ (r : Int32) (m1 m2 : bv_Mem), f_X7_open a1 mi = some (r, m1) ∧ f_X8_open a1 m1 = some (r, m2) ∧ I m2
def bv_S_feed (I : bv_Mem → Prop) : Prop := ∀ (a1 : Int64) (a2 : Int32) (mi : bv_Mem), I mi → ∃ (r : Int32) (m1 m2 : bv_Mem), f_X7_feed a1 a2 mi = some (r, m1) ∧ f_X8_feed a1 a2 m1 = some (r, m2) ∧ I m2
def bv_S_text (I : bv_Mem → Prop) : Prop := ∀ (a1 : Int32) (mi : bv_Mem), I mi → ∃ (r : Int32) (m1 m2 : bv_Mem), f_X7_text a1 mi = some (r, m1) ∧ f_X8_text a1 m1 = some (r, m2) ∧ I m2
def bv_S_law (I : bv_Mem → Prop) : Prop := ∀ (a1 : Int32) (a2 : Int32) (a3 : Int32) (a4 : Int32) (mi : bv_Mem), I mi → ∃ (r : Int32) (m1 m2 : bv_Mem), f_X7_law a1 a2 a3 a4 mi = some (r, m1) ∧ f_X8_law a1 a2 a3 a4 m1 = some (r, m2) ∧ I m2
def bv_S_days (I : bv_Mem → Prop) : Prop := ∀ (a1 : Int32) (mi : bv_Mem), I mi → ∃ (r : Int32) (m1 m2 : bv_Mem), f_X7_days a1 mi = some (r, m1) ∧ f_X8_days a1 m1 = some (r, m2) ∧ I m2
def bv_S_loose (I : bv_Mem → Prop) : Prop := ∀ (a1 : Int32) (mi : bv_Mem), I mi → ∃ (r : Int32) (m1 m2 : bv_Mem), f_X7_loose a1 mi = some (r, m1) ∧ f_X8_loose a1 m1 = some (r, m2) ∧ I m2
def bv_S_view (I : bv_Mem → Prop) : Prop := ∀ (a1 : Int32) (a2 : Int32) (a3 : Int32) (mi : bv_Mem), I mi → ∃ (r : Int32) (m1 m2 : bv_Mem), f_X7_view a1 a2 a3 mi = some (r, m1) ∧ f_X8_view a1 a2 a3 m1 = some (r, m2) ∧ I m2
def bv_S_again (I : bv_Mem → Prop) : Prop := ∀ (a1 : Int32) (a2 : Int32) (mi : bv_Mem), I mi → ∃ (r : Int32) (m1 m2 : bv_Mem), f_X7_again a1 a2 mi = some (r, m1) ∧ f_X8_again a1 a2 m1 = some (r, m2) ∧ I m2
def bv_S_best (I : bv_Mem → Prop) : Prop := ∀ (a1 : Int32) (mi : bv_Mem), I mi → ∃ (r : Int32) (m1 m2 : bv_Mem), f_X7_best a1 mi = some (r, m1) ∧ f_X8_best a1 m1 = some (r, m2) ∧ I m2
def bv_S_tower (I : bv_Mem → Prop) : Prop := ∀ (a1 : Int32) (a2 : Int32) (mi : bv_Mem), I mi → ∃ (r : Int32) (m1 m2 : bv_Mem), f_X7_tower a1 a2 mi = some (r, m1) ∧ f_X8_tower a1 a2 m1 = some (r, m2) ∧ I m2
def bv_S_mutual (I : bv_Mem → Prop) : Prop := ∀ (mi : bv_Mem), I mi → ∃ r : Int32, f_X7_mutual mi = some r ∧ f_X8_mutual mi = some r
def bv_S_unseen (I : bv_Mem → Prop) : Prop := ∀ (mi : bv_Mem), I mi → ∃ r : Int32, f_X7_unseen mi = some r ∧ f_X8_unseen mi = some r
def bv_S_cover (I : bv_Mem → Prop) : Prop := ∀ (a1 : Int32) (mi : bv_Mem), I mi → ∃ (r : Int32) (m1 m2 : bv_Mem), f_X7_cover a1 mi = some (r, m1) ∧ f_X8_cover a1 m1 = some (r, m2) ∧ I m2
def bv_S_keeps (I : bv_Mem → Prop) : Prop := ∀ (a1 : Int32) (mi : bv_Mem), I mi → ∃ (r : Int32) (m1 m2 : bv_Mem), f_X7_keeps a1 mi = some (r, m1) ∧ f_X8_keeps a1 m1 = some (r, m2) ∧ I m2
def bv_S_blend (I : bv_Mem → Prop) : Prop := ∀ (a1 : Int32) (a2 : Int32) (mi : bv_Mem), I mi → ∃ (r : Int32) (m1 m2 : bv_Mem), f_X7_blend a1 a2 mi = some (r, m1) ∧ f_X8_blend a1 a2 m1 = some (r, m2) ∧ I m2
def bv_S_thief (I : bv_Mem → Prop) : Prop := ∀ (a1 : Int32) (mi : bv_Mem), I mi → ∃ (r : Int32) (m1 m2 : bv_Mem), f_X7_thief a1 mi = some (r, m1) ∧ f_X8_thief a1 m1 = some (r, m2) ∧ I m2
def bv_S_both (I : bv_Mem → Prop) : Prop := ∀ (mi : bv_Mem), I mi → ∃ r : Int32, f_X7_both mi = some r ∧ f_X8_both mi = some r
def bv_S_seed (I : bv_Mem → Prop) : Prop := ∀ (a1 : Int32) (mi : bv_Mem), I mi → ∃ (r : Int32) (m1 m2 : bv_Mem), f_X7_seed a1 mi = some (r, m1) ∧ f_X8_seed a1 m1 = some (r, m2) ∧ I m2
def bv_S_voice (I : bv_Mem → Prop) : Prop := ∀ (a1 : Int32) (a2 : Int32) (a3 : Int32) (mi : bv_Mem), I mi → ∃ (r : Int32) (m1 m2 : bv_Mem), f_X7_voice a1 a2 a3 mi = some (r, m1) ∧ f_X8_voice a1 a2 a3 m1 = some (r, m2) ∧ I m2
def bv_S_trace (I : bv_Mem → Prop) : Prop := ∀ (a1 : Int32) (mi : bv_Mem), I mi → ∃ (r : Int32) (m1 m2 : bv_Mem), f_X7_trace a1 mi = some (r, m1) ∧ f_X8_trace a1 m1 = some (r, m2) ∧ I m2
def bv_S_sheet (I : bv_Mem → Prop) : Prop := ∀ (a1 : Int32) (a2 : Int32) (a3 : Int32) (mi : bv_Mem), I mi → ∃ (r : Int32) (m1 m2 : bv_Mem), f_X7_sheet a1 a2 a3 mi = some (r, m1) ∧ f_X8_sheet a1 a2 a3 m1 = some (r, m2) ∧ I m2
def bv_S_put (I : bv_Mem → Prop) : Prop := ∀ (a1 : Int32) (a2 : Int32) (a3 : Int32) (mi : bv_Mem), I mi → ∃ (r : Int32) (m1 m2 : bv_Mem), f_X7_put a1 a2 a3 mi = some (r, m1) ∧ f_X8_put a1 a2 a3 m1 = some (r, m2) ∧ I m2
def bv_S_move (I : bv_Mem → Prop) : Prop := ∀ (a1 : Int32) (a2 : Int32) (a3 : Int32) (a4 : Int32) (a5 : Int32) (mi : bv_Mem), I mi → ∃ (r : Int32) (m1 m2 : bv_Mem), f_X7_move a1 a2 a3 a4 a5 mi = some (r, m1) ∧ f_X8_move a1 a2 a3 a4 a5 m1 = some (r, m2) ∧ I m2
def bv_S_heights (I : bv_Mem → Prop) : Prop := ∀ (a1 : Int32) (mi : bv_Mem), I mi → ∃ (r : Int32) (m1 m2 : bv_Mem), f_X7_heights a1 mi = some (r, m1) ∧ f_X8_heights a1 m1 = some (r, m2) ∧ I m2
def bv_S_judge (I : bv_Mem → Prop) : Prop := ∀ (a1 : Int32) (mi : bv_Mem), I mi → ∃ (r : Int32) (m1 m2 : bv_Mem), f_X7_judge a1 mi = some (r, m1) ∧ f_X8_judge a1 m1 = some (r, m2) ∧ I m2
def bv_S_image (I : bv_Mem → Prop) : Prop := ∀ (mi : bv_Mem), I mi → ∃ (r : Int32) (m1 m2 : bv_Mem), f_X7_image mi = some (r, m1) ∧ f_X8_image m1 = some (r, m2) ∧ I m2
def bv_S_restore (I : bv_Mem → Prop) : Prop := ∀ (mi : bv_Mem), I mi → ∃ (r : Int32) (m1 m2 : bv_Mem), f_X7_restore mi = some (r, m1) ∧ f_X8_restore m1 = some (r, m2) ∧ I m2
def bv_S_tell (I : bv_Mem → Prop) : Prop := ∀ (a1 : Int32) (mi : bv_Mem), I mi → ∃ (r : Int32) (m1 m2 : bv_Mem), f_X7_tell a1 mi = some (r, m1) ∧ f_X8_tell a1 m1 = some (r, m2) ∧ I m2
def bv_S_check (I : bv_Mem → Prop) : Prop := ∀ (mi : bv_Mem), I mi → ∃ (r : Int32) (m1 m2 : bv_Mem), f_X7_check mi = some (r, m1) ∧ f_X8_check m1 = some (r, m2) ∧ I m2
def bv_S_count (I : bv_Mem → Prop) : Prop := ∀ (a1 : Int32) (mi : bv_Mem), I mi → ∃ (r : Int32) (m1 m2 : bv_Mem), f_X7_count a1 mi = some (r, m1) ∧ f_X8_count a1 m1 = some (r, m2) ∧ I m2
def bv_S_told (I : bv_Mem → Prop) : Prop := ∀ (a1 : Int32) (mi : bv_Mem), I mi → ∃ (r : Int32) (m1 m2 : bv_Mem), f_X7_told a1 mi = some (r, m1) ∧ f_X8_told a1 m1 = some (r, m2) ∧ I m2
set_option maxRecDepth 100000 in
set_option maxHeartbeats 4000000 in
theorem law_c0 {I : bv_Mem → Prop} (hs : bv_S_land I) {L i : Nat} {xs : Nat → Int32} (hi1 : bv_in (nI i + 1) L = true) (hi2 : bv_in (nI i + 2) L = true) (hi3 : bv_in (nI i + 3) L = true) (hi4 : bv_in (nI i + 4) L = true) (hi5 : bv_in (nI i + 5) L = true) (hnext : ∀ mi, I mi → bv_Ev ML_law (bv_XL L xs) 2000 0 74 bv_QL 1388 [some (.ref (1000 + 3)), some (.ref 0), some (.ref 61), some (.int (nI i))] [] 74 (bv_mr mi) mi) {mi : bv_Mem} (hI : I mi) : bv_Ev ML_law (bv_XL L xs) 2000 0 74 bv_QL 208 [some (.ref (1000 + 3)), some (.ref 0), some (.ref 61), some (.int (nI i))] [] 74 (bv_mr mi) mi := by
  obtain ⟨r, m1, m2, hz1, hz2, hI2⟩ := hs (xs (nI i + 1).toNatClampNeg) (xs (nI i + 2).toNatClampNeg) (xs (nI i + 3).toNatClampNeg) mi hI
  refine ev_aload_n dL_law_208 rfl ?_
  refine ev_aload_n dL_law_209 rfl ?_
  refine ev_iload_n dL_law_210 rfl ?_
  refine ev_iconst (1 : Int32) dL_law_211 (by decide) ?_
  refine ev_iadd dL_law_212 ?_
  refine ev_xld (j := 3) (N := L) (f := xs) dL_law_213 rfl hi1 ?_
  refine ev_aload_n dL_law_214 rfl ?_
  refine ev_iload_n dL_law_215 rfl ?_
  refine ev_iconst (2 : Int32) dL_law_216 (by decide) ?_
  refine ev_iadd dL_law_217 ?_
  refine ev_xld (j := 3) (N := L) (f := xs) dL_law_218 rfl hi2 ?_
  refine ev_aload_n dL_law_219 rfl ?_
  refine ev_iload_n dL_law_220 rfl ?_
  refine ev_iconst (3 : Int32) dL_law_221 (by decide) ?_
  refine ev_iadd dL_law_222 ?_
  refine ev_xld (j := 3) (N := L) (f := xs) dL_law_223 rfl hi3 ?_
  refine er_VI [.int _, .int _, .int _] (bv_XL_sub L xs) lk_L_13 dL_law_224 rfl rfl rfl rfl rfl (wm_X7_land _ _ _ _ _ hz1) ?_
  refine ev_aload_n dL_law_227 rfl ?_
  refine ev_aload_n dL_law_228 rfl ?_
  refine ev_iload_n dL_law_229 rfl ?_
  refine ev_iconst (1 : Int32) dL_law_230 (by decide) ?_
  refine ev_iadd dL_law_231 ?_
  refine ev_xld (j := 3) (N := L) (f := xs) dL_law_232 rfl hi1 ?_
  refine ev_aload_n dL_law_233 rfl ?_
  refine ev_iload_n dL_law_234 rfl ?_
  refine ev_iconst (2 : Int32) dL_law_235 (by decide) ?_
  refine ev_iadd dL_law_236 ?_
  refine ev_xld (j := 3) (N := L) (f := xs) dL_law_237 rfl hi2 ?_
  refine ev_aload_n dL_law_238 rfl ?_
  refine ev_iload_n dL_law_239 rfl ?_
  refine ev_iconst (3 : Int32) dL_law_240 (by decide) ?_
  refine ev_iadd dL_law_241 ?_
  refine ev_xld (j := 3) (N := L) (f := xs) dL_law_242 rfl hi3 ?_
  refine er_VI [.int _, .int _, .int _] (bv_XL_sub L xs) lk_L_17 dL_law_243 rfl rfl rfl rfl rfl (wm_X8_land _ _ _ _ _ hz2) ?_
  refine ev_icmp_eq 1388 dL_law_246 (by decide) (fun _ => ?_) (fun c => absurd rfl c)
  exact hnext _ hI2
set_option maxRecDepth 100000 in
set_option maxHeartbeats 4000000 in
theorem law_c1 {I : bv_Mem → Prop} (hs : bv_S_ofPlace I) {L i : Nat} {xs : Nat → Int32} (hi1 : bv_in (nI i + 1) L = true) (hi2 : bv_in (nI i + 2) L = true) (hi3 : bv_in (nI i + 3) L = true) (hi4 : bv_in (nI i + 4) L = true) (hi5 : bv_in (nI i + 5) L = true) (hnext : ∀ mi, I mi → bv_Ev ML_law (bv_XL L xs) 2000 0 74 bv_QL 1388 [some (.ref (1000 + 3)), some (.ref 0), some (.ref 61), some (.int (nI i))] [] 74 (bv_mr mi) mi) {mi : bv_Mem} (hI : I mi) : bv_Ev ML_law (bv_XL L xs) 2000 0 74 bv_QL 251 [some (.ref (1000 + 3)), some (.ref 0), some (.ref 61), some (.int (nI i))] [] 74 (bv_mr mi) mi := by
  obtain ⟨r, m1, m2, hz1, hz2, hI2⟩ := hs (xs (nI i + 1).toNatClampNeg) (xs (nI i + 2).toNatClampNeg) mi hI
  refine ev_aload_n dL_law_251 rfl ?_
  refine ev_aload_n dL_law_252 rfl ?_
  refine ev_iload_n dL_law_253 rfl ?_
  refine ev_iconst (1 : Int32) dL_law_254 (by decide) ?_
  refine ev_iadd dL_law_255 ?_
  refine ev_xld (j := 3) (N := L) (f := xs) dL_law_256 rfl hi1 ?_
  refine ev_aload_n dL_law_257 rfl ?_
  refine ev_iload_n dL_law_258 rfl ?_
  refine ev_iconst (2 : Int32) dL_law_259 (by decide) ?_
  refine ev_iadd dL_law_260 ?_
  refine ev_xld (j := 3) (N := L) (f := xs) dL_law_261 rfl hi2 ?_
  refine er_VI [.int _, .int _] (bv_XL_sub L xs) lk_L_18 dL_law_262 rfl rfl rfl rfl rfl (wm_X7_ofPlace _ _ _ _ hz1) ?_
  refine ev_aload_n dL_law_265 rfl ?_
  refine ev_aload_n dL_law_266 rfl ?_
  refine ev_iload_n dL_law_267 rfl ?_
  refine ev_iconst (1 : Int32) dL_law_268 (by decide) ?_
  refine ev_iadd dL_law_269 ?_
  refine ev_xld (j := 3) (N := L) (f := xs) dL_law_270 rfl hi1 ?_
  refine ev_aload_n dL_law_271 rfl ?_
  refine ev_iload_n dL_law_272 rfl ?_
  refine ev_iconst (2 : Int32) dL_law_273 (by decide) ?_
  refine ev_iadd dL_law_274 ?_
  refine ev_xld (j := 3) (N := L) (f := xs) dL_law_275 rfl hi2 ?_
  refine er_VI [.int _, .int _] (bv_XL_sub L xs) lk_L_22 dL_law_276 rfl rfl rfl rfl rfl (wm_X8_ofPlace _ _ _ _ hz2) ?_
  refine ev_icmp_eq 1388 dL_law_279 (by decide) (fun _ => ?_) (fun c => absurd rfl c)
  exact hnext _ hI2
set_option maxRecDepth 100000 in
set_option maxHeartbeats 4000000 in
theorem law_c2 {I : bv_Mem → Prop} (hs : bv_S_village I) {L i : Nat} {xs : Nat → Int32} (hi1 : bv_in (nI i + 1) L = true) (hi2 : bv_in (nI i + 2) L = true) (hi3 : bv_in (nI i + 3) L = true) (hi4 : bv_in (nI i + 4) L = true) (hi5 : bv_in (nI i + 5) L = true) (hnext : ∀ mi, I mi → bv_Ev ML_law (bv_XL L xs) 2000 0 74 bv_QL 1388 [some (.ref (1000 + 3)), some (.ref 0), some (.ref 61), some (.int (nI i))] [] 74 (bv_mr mi) mi) {mi : bv_Mem} (hI : I mi) : bv_Ev ML_law (bv_XL L xs) 2000 0 74 bv_QL 284 [some (.ref (1000 + 3)), some (.ref 0), some (.ref 61), some (.int (nI i))] [] 74 (bv_mr mi) mi := by
  obtain ⟨r, m1, m2, hz1, hz2, hI2⟩ := hs (xs (nI i + 1).toNatClampNeg) mi hI
  refine ev_aload_n dL_law_284 rfl ?_
  refine ev_aload_n dL_law_285 rfl ?_
  refine ev_iload_n dL_law_286 rfl ?_
  refine ev_iconst (1 : Int32) dL_law_287 (by decide) ?_
  refine ev_iadd dL_law_288 ?_
  refine ev_xld (j := 3) (N := L) (f := xs) dL_law_289 rfl hi1 ?_
  refine er_VI [.int _] (bv_XL_sub L xs) lk_L_23 dL_law_290 rfl rfl rfl rfl rfl (wm_X7_village _ _ _ hz1) ?_
  refine ev_aload_n dL_law_293 rfl ?_
  refine ev_aload_n dL_law_294 rfl ?_
  refine ev_iload_n dL_law_295 rfl ?_
  refine ev_iconst (1 : Int32) dL_law_296 (by decide) ?_
  refine ev_iadd dL_law_297 ?_
  refine ev_xld (j := 3) (N := L) (f := xs) dL_law_298 rfl hi1 ?_
  refine er_VI [.int _] (bv_XL_sub L xs) lk_L_27 dL_law_299 rfl rfl rfl rfl rfl (wm_X8_village _ _ _ hz2) ?_
  refine ev_icmp_eq 1388 dL_law_302 (by decide) (fun _ => ?_) (fun c => absurd rfl c)
  exact hnext _ hI2
set_option maxRecDepth 100000 in
set_option maxHeartbeats 4000000 in
theorem law_c3 {I : bv_Mem → Prop} (hs : bv_S_moves I) {L i : Nat} {xs : Nat → Int32} (hi1 : bv_in (nI i + 1) L = true) (hi2 : bv_in (nI i + 2) L = true) (hi3 : bv_in (nI i + 3) L = true) (hi4 : bv_in (nI i + 4) L = true) (hi5 : bv_in (nI i + 5) L = true) (hnext : ∀ mi, I mi → bv_Ev ML_law (bv_XL L xs) 2000 0 74 bv_QL 1388 [some (.ref (1000 + 3)), some (.ref 0), some (.ref 61), some (.int (nI i))] [] 74 (bv_mr mi) mi) {mi : bv_Mem} (hI : I mi) : bv_Ev ML_law (bv_XL L xs) 2000 0 74 bv_QL 307 [some (.ref (1000 + 3)), some (.ref 0), some (.ref 61), some (.int (nI i))] [] 74 (bv_mr mi) mi := by
  obtain ⟨r, m1, m2, hz1, hz2, hI2⟩ := hs (xs (nI i + 1).toNatClampNeg) (xs (nI i + 2).toNatClampNeg) mi hI
  refine ev_aload_n dL_law_307 rfl ?_
  refine ev_aload_n dL_law_308 rfl ?_
  refine ev_iload_n dL_law_309 rfl ?_
  refine ev_iconst (1 : Int32) dL_law_310 (by decide) ?_
  refine ev_iadd dL_law_311 ?_
  refine ev_xld (j := 3) (N := L) (f := xs) dL_law_312 rfl hi1 ?_
  refine ev_aload_n dL_law_313 rfl ?_
  refine ev_iload_n dL_law_314 rfl ?_
  refine ev_iconst (2 : Int32) dL_law_315 (by decide) ?_
  refine ev_iadd dL_law_316 ?_
  refine ev_xld (j := 3) (N := L) (f := xs) dL_law_317 rfl hi2 ?_
  refine er_VI [.int _, .int _] (bv_XL_sub L xs) lk_L_28 dL_law_318 rfl rfl rfl rfl rfl (wm_X7_moves _ _ _ _ hz1) ?_
  refine ev_aload_n dL_law_321 rfl ?_
  refine ev_aload_n dL_law_322 rfl ?_
  refine ev_iload_n dL_law_323 rfl ?_
  refine ev_iconst (1 : Int32) dL_law_324 (by decide) ?_
  refine ev_iadd dL_law_325 ?_
  refine ev_xld (j := 3) (N := L) (f := xs) dL_law_326 rfl hi1 ?_
  refine ev_aload_n dL_law_327 rfl ?_
  refine ev_iload_n dL_law_328 rfl ?_
  refine ev_iconst (2 : Int32) dL_law_329 (by decide) ?_
  refine ev_iadd dL_law_330 ?_
  refine ev_xld (j := 3) (N := L) (f := xs) dL_law_331 rfl hi2 ?_
  refine er_VI [.int _, .int _] (bv_XL_sub L xs) lk_L_31 dL_law_332 rfl rfl rfl rfl rfl (wm_X8_moves _ _ _ _ hz2) ?_
  refine ev_icmp_eq 1388 dL_law_335 (by decide) (fun _ => ?_) (fun c => absurd rfl c)
  exact hnext _ hI2
set_option maxRecDepth 100000 in
set_option maxHeartbeats 4000000 in
theorem law_c4 {I : bv_Mem → Prop} (hs : bv_S_at I) {L i : Nat} {xs : Nat → Int32} (hi1 : bv_in (nI i + 1) L = true) (hi2 : bv_in (nI i + 2) L = true) (hi3 : bv_in (nI i + 3) L = true) (hi4 : bv_in (nI i + 4) L = true) (hi5 : bv_in (nI i + 5) L = true) (hnext : ∀ mi, I mi → bv_Ev ML_law (bv_XL L xs) 2000 0 74 bv_QL 1388 [some (.ref (1000 + 3)), some (.ref 0), some (.ref 61), some (.int (nI i))] [] 74 (bv_mr mi) mi) {mi : bv_Mem} (hI : I mi) : bv_Ev ML_law (bv_XL L xs) 2000 0 74 bv_QL 340 [some (.ref (1000 + 3)), some (.ref 0), some (.ref 61), some (.int (nI i))] [] 74 (bv_mr mi) mi := by
  obtain ⟨r, m1, m2, hz1, hz2, hI2⟩ := hs (xs (nI i + 1).toNatClampNeg) mi hI
  refine ev_aload_n dL_law_340 rfl ?_
  refine ev_aload_n dL_law_341 rfl ?_
  refine ev_iload_n dL_law_342 rfl ?_
  refine ev_iconst (1 : Int32) dL_law_343 (by decide) ?_
  refine ev_iadd dL_law_344 ?_
  refine ev_xld (j := 3) (N := L) (f := xs) dL_law_345 rfl hi1 ?_
  refine er_VI [.int _] (bv_XL_sub L xs) lk_L_32 dL_law_346 rfl rfl rfl rfl rfl (wm_X7_at _ _ _ hz1) ?_
  refine ev_aload_n dL_law_349 rfl ?_
  refine ev_aload_n dL_law_350 rfl ?_
  refine ev_iload_n dL_law_351 rfl ?_
  refine ev_iconst (1 : Int32) dL_law_352 (by decide) ?_
  refine ev_iadd dL_law_353 ?_
  refine ev_xld (j := 3) (N := L) (f := xs) dL_law_354 rfl hi1 ?_
  refine er_VI [.int _] (bv_XL_sub L xs) lk_L_35 dL_law_355 rfl rfl rfl rfl rfl (wm_X8_at _ _ _ hz2) ?_
  refine ev_icmp_eq 1388 dL_law_358 (by decide) (fun _ => ?_) (fun c => absurd rfl c)
  exact hnext _ hI2
set_option maxRecDepth 100000 in
set_option maxHeartbeats 4000000 in
theorem law_c5 {I : bv_Mem → Prop} (hs : bv_S_fill I) {L i : Nat} {xs : Nat → Int32} (hi1 : bv_in (nI i + 1) L = true) (hi2 : bv_in (nI i + 2) L = true) (hi3 : bv_in (nI i + 3) L = true) (hi4 : bv_in (nI i + 4) L = true) (hi5 : bv_in (nI i + 5) L = true) (hnext : ∀ mi, I mi → bv_Ev ML_law (bv_XL L xs) 2000 0 74 bv_QL 1388 [some (.ref (1000 + 3)), some (.ref 0), some (.ref 61), some (.int (nI i))] [] 74 (bv_mr mi) mi) {mi : bv_Mem} (hI : I mi) : bv_Ev ML_law (bv_XL L xs) 2000 0 74 bv_QL 363 [some (.ref (1000 + 3)), some (.ref 0), some (.ref 61), some (.int (nI i))] [] 74 (bv_mr mi) mi := by
  obtain ⟨r, m1, m2, hz1, hz2, hI2⟩ := hs (xs (nI i + 1).toNatClampNeg) (xs (nI i + 2).toNatClampNeg) (xs (nI i + 3).toNatClampNeg) (xs (nI i + 4).toNatClampNeg) mi hI
  refine ev_aload_n dL_law_363 rfl ?_
  refine ev_aload_n dL_law_364 rfl ?_
  refine ev_iload_n dL_law_365 rfl ?_
  refine ev_iconst (1 : Int32) dL_law_366 (by decide) ?_
  refine ev_iadd dL_law_367 ?_
  refine ev_xld (j := 3) (N := L) (f := xs) dL_law_368 rfl hi1 ?_
  refine ev_aload_n dL_law_369 rfl ?_
  refine ev_iload_n dL_law_370 rfl ?_
  refine ev_iconst (2 : Int32) dL_law_371 (by decide) ?_
  refine ev_iadd dL_law_372 ?_
  refine ev_xld (j := 3) (N := L) (f := xs) dL_law_373 rfl hi2 ?_
  refine ev_aload_n dL_law_374 rfl ?_
  refine ev_iload_n dL_law_375 rfl ?_
  refine ev_iconst (3 : Int32) dL_law_376 (by decide) ?_
  refine ev_iadd dL_law_377 ?_
  refine ev_xld (j := 3) (N := L) (f := xs) dL_law_378 rfl hi3 ?_
  refine ev_aload_n dL_law_379 rfl ?_
  refine ev_iload_n dL_law_380 rfl ?_
  refine ev_iconst (4 : Int32) dL_law_381 (by decide) ?_
  refine ev_iadd dL_law_382 ?_
  refine ev_xld (j := 3) (N := L) (f := xs) dL_law_383 rfl hi4 ?_
  refine er_VI [.int _, .int _, .int _, .int _] (bv_XL_sub L xs) lk_L_36 dL_law_384 rfl rfl rfl rfl rfl (wm_X7_fill _ _ _ _ _ _ hz1) ?_
  refine ev_aload_n dL_law_387 rfl ?_
  refine ev_aload_n dL_law_388 rfl ?_
  refine ev_iload_n dL_law_389 rfl ?_
  refine ev_iconst (1 : Int32) dL_law_390 (by decide) ?_
  refine ev_iadd dL_law_391 ?_
  refine ev_xld (j := 3) (N := L) (f := xs) dL_law_392 rfl hi1 ?_
  refine ev_aload_n dL_law_393 rfl ?_
  refine ev_iload_n dL_law_394 rfl ?_
  refine ev_iconst (2 : Int32) dL_law_395 (by decide) ?_
  refine ev_iadd dL_law_396 ?_
  refine ev_xld (j := 3) (N := L) (f := xs) dL_law_397 rfl hi2 ?_
  refine ev_aload_n dL_law_398 rfl ?_
  refine ev_iload_n dL_law_399 rfl ?_
  refine ev_iconst (3 : Int32) dL_law_400 (by decide) ?_
  refine ev_iadd dL_law_401 ?_
  refine ev_xld (j := 3) (N := L) (f := xs) dL_law_402 rfl hi3 ?_
  refine ev_aload_n dL_law_403 rfl ?_
  refine ev_iload_n dL_law_404 rfl ?_
  refine ev_iconst (4 : Int32) dL_law_405 (by decide) ?_
  refine ev_iadd dL_law_406 ?_
  refine ev_xld (j := 3) (N := L) (f := xs) dL_law_407 rfl hi4 ?_
  refine er_VI [.int _, .int _, .int _, .int _] (bv_XL_sub L xs) lk_L_40 dL_law_408 rfl rfl rfl rfl rfl (wm_X8_fill _ _ _ _ _ _ hz2) ?_
  refine ev_icmp_eq 1388 dL_law_411 (by decide) (fun _ => ?_) (fun c => absurd rfl c)
  exact hnext _ hI2
set_option maxRecDepth 100000 in
set_option maxHeartbeats 4000000 in
theorem law_c6 {I : bv_Mem → Prop} (hs : bv_S_ofBottle I) {L i : Nat} {xs : Nat → Int32} (hi1 : bv_in (nI i + 1) L = true) (hi2 : bv_in (nI i + 2) L = true) (hi3 : bv_in (nI i + 3) L = true) (hi4 : bv_in (nI i + 4) L = true) (hi5 : bv_in (nI i + 5) L = true) (hnext : ∀ mi, I mi → bv_Ev ML_law (bv_XL L xs) 2000 0 74 bv_QL 1388 [some (.ref (1000 + 3)), some (.ref 0), some (.ref 61), some (.int (nI i))] [] 74 (bv_mr mi) mi) {mi : bv_Mem} (hI : I mi) : bv_Ev ML_law (bv_XL L xs) 2000 0 74 bv_QL 416 [some (.ref (1000 + 3)), some (.ref 0), some (.ref 61), some (.int (nI i))] [] 74 (bv_mr mi) mi := by
  obtain ⟨r, m1, m2, hz1, hz2, hI2⟩ := hs (xs (nI i + 1).toNatClampNeg) (xs (nI i + 2).toNatClampNeg) mi hI
  refine ev_aload_n dL_law_416 rfl ?_
  refine ev_aload_n dL_law_417 rfl ?_
  refine ev_iload_n dL_law_418 rfl ?_
  refine ev_iconst (1 : Int32) dL_law_419 (by decide) ?_
  refine ev_iadd dL_law_420 ?_
  refine ev_xld (j := 3) (N := L) (f := xs) dL_law_421 rfl hi1 ?_
  refine ev_aload_n dL_law_422 rfl ?_
  refine ev_iload_n dL_law_423 rfl ?_
  refine ev_iconst (2 : Int32) dL_law_424 (by decide) ?_
  refine ev_iadd dL_law_425 ?_
  refine ev_xld (j := 3) (N := L) (f := xs) dL_law_426 rfl hi2 ?_
  refine er_VI [.int _, .int _] (bv_XL_sub L xs) lk_L_41 dL_law_427 rfl rfl rfl rfl rfl (wm_X7_ofBottle _ _ _ _ hz1) ?_
  refine ev_aload_n dL_law_430 rfl ?_
  refine ev_aload_n dL_law_431 rfl ?_
  refine ev_iload_n dL_law_432 rfl ?_
  refine ev_iconst (1 : Int32) dL_law_433 (by decide) ?_
  refine ev_iadd dL_law_434 ?_
  refine ev_xld (j := 3) (N := L) (f := xs) dL_law_435 rfl hi1 ?_
  refine ev_aload_n dL_law_436 rfl ?_
  refine ev_iload_n dL_law_437 rfl ?_
  refine ev_iconst (2 : Int32) dL_law_438 (by decide) ?_
  refine ev_iadd dL_law_439 ?_
  refine ev_xld (j := 3) (N := L) (f := xs) dL_law_440 rfl hi2 ?_
  refine er_VI [.int _, .int _] (bv_XL_sub L xs) lk_L_44 dL_law_441 rfl rfl rfl rfl rfl (wm_X8_ofBottle _ _ _ _ hz2) ?_
  refine ev_icmp_eq 1388 dL_law_444 (by decide) (fun _ => ?_) (fun c => absurd rfl c)
  exact hnext _ hI2
set_option maxRecDepth 100000 in
set_option maxHeartbeats 4000000 in
theorem law_c7 {I : bv_Mem → Prop} (hs : bv_S_become I) {L i : Nat} {xs : Nat → Int32} (hi1 : bv_in (nI i + 1) L = true) (hi2 : bv_in (nI i + 2) L = true) (hi3 : bv_in (nI i + 3) L = true) (hi4 : bv_in (nI i + 4) L = true) (hi5 : bv_in (nI i + 5) L = true) (hnext : ∀ mi, I mi → bv_Ev ML_law (bv_XL L xs) 2000 0 74 bv_QL 1388 [some (.ref (1000 + 3)), some (.ref 0), some (.ref 61), some (.int (nI i))] [] 74 (bv_mr mi) mi) {mi : bv_Mem} (hI : I mi) : bv_Ev ML_law (bv_XL L xs) 2000 0 74 bv_QL 449 [some (.ref (1000 + 3)), some (.ref 0), some (.ref 61), some (.int (nI i))] [] 74 (bv_mr mi) mi := by
  obtain ⟨r, m1, m2, hz1, hz2, hI2⟩ := hs (xs (nI i + 1).toNatClampNeg) (xs (nI i + 2).toNatClampNeg) mi hI
  refine ev_aload_n dL_law_449 rfl ?_
  refine ev_aload_n dL_law_450 rfl ?_
  refine ev_iload_n dL_law_451 rfl ?_
  refine ev_iconst (1 : Int32) dL_law_452 (by decide) ?_
  refine ev_iadd dL_law_453 ?_
  refine ev_xld (j := 3) (N := L) (f := xs) dL_law_454 rfl hi1 ?_
  refine ev_aload_n dL_law_455 rfl ?_
  refine ev_iload_n dL_law_456 rfl ?_
  refine ev_iconst (2 : Int32) dL_law_457 (by decide) ?_
  refine ev_iadd dL_law_458 ?_
  refine ev_xld (j := 3) (N := L) (f := xs) dL_law_459 rfl hi2 ?_
  refine er_VI [.int _, .int _] (bv_XL_sub L xs) lk_L_45 dL_law_460 rfl rfl rfl rfl rfl (wm_X7_become _ _ _ _ hz1) ?_
  refine ev_aload_n dL_law_463 rfl ?_
  refine ev_aload_n dL_law_464 rfl ?_
  refine ev_iload_n dL_law_465 rfl ?_
  refine ev_iconst (1 : Int32) dL_law_466 (by decide) ?_
  refine ev_iadd dL_law_467 ?_
  refine ev_xld (j := 3) (N := L) (f := xs) dL_law_468 rfl hi1 ?_
  refine ev_aload_n dL_law_469 rfl ?_
  refine ev_iload_n dL_law_470 rfl ?_
  refine ev_iconst (2 : Int32) dL_law_471 (by decide) ?_
  refine ev_iadd dL_law_472 ?_
  refine ev_xld (j := 3) (N := L) (f := xs) dL_law_473 rfl hi2 ?_
  refine er_VI [.int _, .int _] (bv_XL_sub L xs) lk_L_48 dL_law_474 rfl rfl rfl rfl rfl (wm_X8_become _ _ _ _ hz2) ?_
  refine ev_icmp_eq 1388 dL_law_477 (by decide) (fun _ => ?_) (fun c => absurd rfl c)
  exact hnext _ hI2
set_option maxRecDepth 100000 in
set_option maxHeartbeats 4000000 in
theorem law_c8 {I : bv_Mem → Prop} (hs : bv_S_as I) {L i : Nat} {xs : Nat → Int32} (hi1 : bv_in (nI i + 1) L = true) (hi2 : bv_in (nI i + 2) L = true) (hi3 : bv_in (nI i + 3) L = true) (hi4 : bv_in (nI i + 4) L = true) (hi5 : bv_in (nI i + 5) L = true) (hnext : ∀ mi, I mi → bv_Ev ML_law (bv_XL L xs) 2000 0 74 bv_QL 1388 [some (.ref (1000 + 3)), some (.ref 0), some (.ref 61), some (.int (nI i))] [] 74 (bv_mr mi) mi) {mi : bv_Mem} (hI : I mi) : bv_Ev ML_law (bv_XL L xs) 2000 0 74 bv_QL 482 [some (.ref (1000 + 3)), some (.ref 0), some (.ref 61), some (.int (nI i))] [] 74 (bv_mr mi) mi := by
  obtain ⟨r, m1, m2, hz1, hz2, hI2⟩ := hs (xs (nI i + 1).toNatClampNeg) (xs (nI i + 2).toNatClampNeg) mi hI
  refine ev_aload_n dL_law_482 rfl ?_
  refine ev_aload_n dL_law_483 rfl ?_
  refine ev_iload_n dL_law_484 rfl ?_
  refine ev_iconst (1 : Int32) dL_law_485 (by decide) ?_
  refine ev_iadd dL_law_486 ?_
  refine ev_xld (j := 3) (N := L) (f := xs) dL_law_487 rfl hi1 ?_
  refine ev_aload_n dL_law_488 rfl ?_
  refine ev_iload_n dL_law_489 rfl ?_
  refine ev_iconst (2 : Int32) dL_law_490 (by decide) ?_
  refine ev_iadd dL_law_491 ?_
  refine ev_xld (j := 3) (N := L) (f := xs) dL_law_492 rfl hi2 ?_
  refine er_VI [.int _, .int _] (bv_XL_sub L xs) lk_L_49 dL_law_493 rfl rfl rfl rfl rfl (wm_X7_as _ _ _ _ hz1) ?_
  refine ev_aload_n dL_law_496 rfl ?_
  refine ev_aload_n dL_law_497 rfl ?_
  refine ev_iload_n dL_law_498 rfl ?_
  refine ev_iconst (1 : Int32) dL_law_499 (by decide) ?_
  refine ev_iadd dL_law_500 ?_
  refine ev_xld (j := 3) (N := L) (f := xs) dL_law_501 rfl hi1 ?_
  refine ev_aload_n dL_law_502 rfl ?_
  refine ev_iload_n dL_law_503 rfl ?_
  refine ev_iconst (2 : Int32) dL_law_504 (by decide) ?_
  refine ev_iadd dL_law_505 ?_
  refine ev_xld (j := 3) (N := L) (f := xs) dL_law_506 rfl hi2 ?_
  refine er_VI [.int _, .int _] (bv_XL_sub L xs) lk_L_52 dL_law_507 rfl rfl rfl rfl rfl (wm_X8_as _ _ _ _ hz2) ?_
  refine ev_icmp_eq 1388 dL_law_510 (by decide) (fun _ => ?_) (fun c => absurd rfl c)
  exact hnext _ hI2
set_option maxRecDepth 100000 in
set_option maxHeartbeats 4000000 in
theorem law_c9 {I : bv_Mem → Prop} (hs : bv_S_open I) {L i : Nat} {xs : Nat → Int32} (hi1 : bv_in (nI i + 1) L = true) (hi2 : bv_in (nI i + 2) L = true) (hi3 : bv_in (nI i + 3) L = true) (hi4 : bv_in (nI i + 4) L = true) (hi5 : bv_in (nI i + 5) L = true) (hnext : ∀ mi, I mi → bv_Ev ML_law (bv_XL L xs) 2000 0 74 bv_QL 1388 [some (.ref (1000 + 3)), some (.ref 0), some (.ref 61), some (.int (nI i))] [] 74 (bv_mr mi) mi) {mi : bv_Mem} (hI : I mi) : bv_Ev ML_law (bv_XL L xs) 2000 0 74 bv_QL 515 [some (.ref (1000 + 3)), some (.ref 0), some (.ref 61), some (.int (nI i))] [] 74 (bv_mr mi) mi := by
  obtain ⟨r, m1, m2, hz1, hz2, hI2⟩ := hs (xs (nI i + 1).toNatClampNeg) mi hI
  refine ev_aload_n dL_law_515 rfl ?_
  refine ev_aload_n dL_law_516 rfl ?_
  refine ev_iload_n dL_law_517 rfl ?_
  refine ev_iconst (1 : Int32) dL_law_518 (by decide) ?_
  refine ev_iadd dL_law_519 ?_
  refine ev_xld (j := 3) (N := L) (f := xs) dL_law_520 rfl hi1 ?_
  refine er_VI [.int _] (bv_XL_sub L xs) lk_L_53 dL_law_521 rfl rfl rfl rfl rfl (wm_X7_open _ _ _ hz1) ?_
  refine ev_aload_n dL_law_524 rfl ?_
  refine ev_aload_n dL_law_525 rfl ?_
  refine ev_iload_n dL_law_526 rfl ?_
  refine ev_iconst (1 : Int32) dL_law_527 (by decide) ?_
  refine ev_iadd dL_law_528 ?_
  refine ev_xld (j := 3) (N := L) (f := xs) dL_law_529 rfl hi1 ?_
  refine er_VI [.int _] (bv_XL_sub L xs) lk_L_56 dL_law_530 rfl rfl rfl rfl rfl (wm_X8_open _ _ _ hz2) ?_
  refine ev_icmp_eq 1388 dL_law_533 (by decide) (fun _ => ?_) (fun c => absurd rfl c)
  exact hnext _ hI2
set_option maxRecDepth 100000 in
set_option maxHeartbeats 4000000 in
theorem law_c10 {I : bv_Mem → Prop} (hs : bv_S_feed I) {L i : Nat} {xs : Nat → Int32} (hi1 : bv_in (nI i + 1) L = true) (hi2 : bv_in (nI i + 2) L = true) (hi3 : bv_in (nI i + 3) L = true) (hi4 : bv_in (nI i + 4) L = true) (hi5 : bv_in (nI i + 5) L = true) (hnext : ∀ mi, I mi → bv_Ev ML_law (bv_XL L xs) 2000 0 74 bv_QL 1388 [some (.ref (1000 + 3)), some (.ref 0), some (.ref 61), some (.int (nI i))] [] 74 (bv_mr mi) mi) {mi : bv_Mem} (hI : I mi) : bv_Ev ML_law (bv_XL L xs) 2000 0 74 bv_QL 538 [some (.ref (1000 + 3)), some (.ref 0), some (.ref 61), some (.int (nI i))] [] 74 (bv_mr mi) mi := by
  obtain ⟨r, m1, m2, hz1, hz2, hI2⟩ := hs (((xs (nI i + 1).toNatClampNeg).toInt64 <<< ((32 : Int32).toInt64 &&& 63)) ||| ((xs (nI i + 2).toNatClampNeg).toInt64 &&& (4294967295 : Int64))) (xs (nI i + 3).toNatClampNeg) mi hI
  refine ev_aload_n dL_law_538 rfl ?_
  refine ev_aload_n dL_law_539 rfl ?_
  refine ev_iload_n dL_law_540 rfl ?_
  refine ev_iconst (1 : Int32) dL_law_541 (by decide) ?_
  refine ev_iadd dL_law_542 ?_
  refine ev_xld (j := 3) (N := L) (f := xs) dL_law_543 rfl hi1 ?_
  refine ev_i2l dL_law_544 ?_
  refine ev_bipush (32 : Int32) dL_law_545 (by decide) ?_
  refine ev_lshl dL_law_547 ?_
  refine ev_aload_n dL_law_548 rfl ?_
  refine ev_iload_n dL_law_549 rfl ?_
  refine ev_iconst (2 : Int32) dL_law_550 (by decide) ?_
  refine ev_iadd dL_law_551 ?_
  refine ev_xld (j := 3) (N := L) (f := xs) dL_law_552 rfl hi2 ?_
  refine ev_i2l dL_law_553 ?_
  refine ev_ldc2 (4294967295 : Int64) dL_law_554 lc_L_57 ?_
  refine ev_land dL_law_557 ?_
  refine ev_lor dL_law_558 ?_
  refine ev_aload_n dL_law_559 rfl ?_
  refine ev_iload_n dL_law_560 rfl ?_
  refine ev_iconst (3 : Int32) dL_law_561 (by decide) ?_
  refine ev_iadd dL_law_562 ?_
  refine ev_xld (j := 3) (N := L) (f := xs) dL_law_563 rfl hi3 ?_
  refine er_VI [.long _, .int _] (bv_XL_sub L xs) lk_L_59 dL_law_564 rfl rfl rfl rfl rfl (wm_X7_feed _ _ _ _ hz1) ?_
  refine ev_aload_n dL_law_567 rfl ?_
  refine ev_aload_n dL_law_568 rfl ?_
  refine ev_iload_n dL_law_569 rfl ?_
  refine ev_iconst (1 : Int32) dL_law_570 (by decide) ?_
  refine ev_iadd dL_law_571 ?_
  refine ev_xld (j := 3) (N := L) (f := xs) dL_law_572 rfl hi1 ?_
  refine ev_i2l dL_law_573 ?_
  refine ev_bipush (32 : Int32) dL_law_574 (by decide) ?_
  refine ev_lshl dL_law_576 ?_
  refine ev_aload_n dL_law_577 rfl ?_
  refine ev_iload_n dL_law_578 rfl ?_
  refine ev_iconst (2 : Int32) dL_law_579 (by decide) ?_
  refine ev_iadd dL_law_580 ?_
  refine ev_xld (j := 3) (N := L) (f := xs) dL_law_581 rfl hi2 ?_
  refine ev_i2l dL_law_582 ?_
  refine ev_ldc2 (4294967295 : Int64) dL_law_583 lc_L_57 ?_
  refine ev_land dL_law_586 ?_
  refine ev_lor dL_law_587 ?_
  refine ev_aload_n dL_law_588 rfl ?_
  refine ev_iload_n dL_law_589 rfl ?_
  refine ev_iconst (3 : Int32) dL_law_590 (by decide) ?_
  refine ev_iadd dL_law_591 ?_
  refine ev_xld (j := 3) (N := L) (f := xs) dL_law_592 rfl hi3 ?_
  refine er_VI [.long _, .int _] (bv_XL_sub L xs) lk_L_63 dL_law_593 rfl rfl rfl rfl rfl (wm_X8_feed _ _ _ _ hz2) ?_
  refine ev_icmp_eq 1388 dL_law_596 (by decide) (fun _ => ?_) (fun c => absurd rfl c)
  exact hnext _ hI2
set_option maxRecDepth 100000 in
set_option maxHeartbeats 4000000 in
theorem law_c11 {I : bv_Mem → Prop} (hs : bv_S_text I) {L i : Nat} {xs : Nat → Int32} (hi1 : bv_in (nI i + 1) L = true) (hi2 : bv_in (nI i + 2) L = true) (hi3 : bv_in (nI i + 3) L = true) (hi4 : bv_in (nI i + 4) L = true) (hi5 : bv_in (nI i + 5) L = true) (hnext : ∀ mi, I mi → bv_Ev ML_law (bv_XL L xs) 2000 0 74 bv_QL 1388 [some (.ref (1000 + 3)), some (.ref 0), some (.ref 61), some (.int (nI i))] [] 74 (bv_mr mi) mi) {mi : bv_Mem} (hI : I mi) : bv_Ev ML_law (bv_XL L xs) 2000 0 74 bv_QL 601 [some (.ref (1000 + 3)), some (.ref 0), some (.ref 61), some (.int (nI i))] [] 74 (bv_mr mi) mi := by
  obtain ⟨r, m1, m2, hz1, hz2, hI2⟩ := hs (xs (nI i + 1).toNatClampNeg) mi hI
  refine ev_aload_n dL_law_601 rfl ?_
  refine ev_aload_n dL_law_602 rfl ?_
  refine ev_iload_n dL_law_603 rfl ?_
  refine ev_iconst (1 : Int32) dL_law_604 (by decide) ?_
  refine ev_iadd dL_law_605 ?_
  refine ev_xld (j := 3) (N := L) (f := xs) dL_law_606 rfl hi1 ?_
  refine er_VI [.int _] (bv_XL_sub L xs) lk_L_64 dL_law_607 rfl rfl rfl rfl rfl (wm_X7_text _ _ _ hz1) ?_
  refine ev_aload_n dL_law_610 rfl ?_
  refine ev_aload_n dL_law_611 rfl ?_
  refine ev_iload_n dL_law_612 rfl ?_
  refine ev_iconst (1 : Int32) dL_law_613 (by decide) ?_
  refine ev_iadd dL_law_614 ?_
  refine ev_xld (j := 3) (N := L) (f := xs) dL_law_615 rfl hi1 ?_
  refine er_VI [.int _] (bv_XL_sub L xs) lk_L_67 dL_law_616 rfl rfl rfl rfl rfl (wm_X8_text _ _ _ hz2) ?_
  refine ev_icmp_eq 1388 dL_law_619 (by decide) (fun _ => ?_) (fun c => absurd rfl c)
  exact hnext _ hI2
set_option maxRecDepth 100000 in
set_option maxHeartbeats 4000000 in
theorem law_c12 {I : bv_Mem → Prop} (hs : bv_S_law I) {L i : Nat} {xs : Nat → Int32} (hi1 : bv_in (nI i + 1) L = true) (hi2 : bv_in (nI i + 2) L = true) (hi3 : bv_in (nI i + 3) L = true) (hi4 : bv_in (nI i + 4) L = true) (hi5 : bv_in (nI i + 5) L = true) (hnext : ∀ mi, I mi → bv_Ev ML_law (bv_XL L xs) 2000 0 74 bv_QL 1388 [some (.ref (1000 + 3)), some (.ref 0), some (.ref 61), some (.int (nI i))] [] 74 (bv_mr mi) mi) {mi : bv_Mem} (hI : I mi) : bv_Ev ML_law (bv_XL L xs) 2000 0 74 bv_QL 624 [some (.ref (1000 + 3)), some (.ref 0), some (.ref 61), some (.int (nI i))] [] 74 (bv_mr mi) mi := by
  obtain ⟨r, m1, m2, hz1, hz2, hI2⟩ := hs (xs (nI i + 1).toNatClampNeg) (xs (nI i + 2).toNatClampNeg) (xs (nI i + 3).toNatClampNeg) (xs (nI i + 4).toNatClampNeg) mi hI
  refine ev_aload_n dL_law_624 rfl ?_
  refine ev_aload_n dL_law_625 rfl ?_
  refine ev_iload_n dL_law_626 rfl ?_
  refine ev_iconst (1 : Int32) dL_law_627 (by decide) ?_
  refine ev_iadd dL_law_628 ?_
  refine ev_xld (j := 3) (N := L) (f := xs) dL_law_629 rfl hi1 ?_
  refine ev_aload_n dL_law_630 rfl ?_
  refine ev_iload_n dL_law_631 rfl ?_
  refine ev_iconst (2 : Int32) dL_law_632 (by decide) ?_
  refine ev_iadd dL_law_633 ?_
  refine ev_xld (j := 3) (N := L) (f := xs) dL_law_634 rfl hi2 ?_
  refine ev_aload_n dL_law_635 rfl ?_
  refine ev_iload_n dL_law_636 rfl ?_
  refine ev_iconst (3 : Int32) dL_law_637 (by decide) ?_
  refine ev_iadd dL_law_638 ?_
  refine ev_xld (j := 3) (N := L) (f := xs) dL_law_639 rfl hi3 ?_
  refine ev_aload_n dL_law_640 rfl ?_
  refine ev_iload_n dL_law_641 rfl ?_
  refine ev_iconst (4 : Int32) dL_law_642 (by decide) ?_
  refine ev_iadd dL_law_643 ?_
  refine ev_xld (j := 3) (N := L) (f := xs) dL_law_644 rfl hi4 ?_
  refine er_VI [.int _, .int _, .int _, .int _] (bv_XL_sub L xs) lk_L_68 dL_law_645 rfl rfl rfl rfl rfl (wm_X7_law _ _ _ _ _ _ hz1) ?_
  refine ev_aload_n dL_law_648 rfl ?_
  refine ev_aload_n dL_law_649 rfl ?_
  refine ev_iload_n dL_law_650 rfl ?_
  refine ev_iconst (1 : Int32) dL_law_651 (by decide) ?_
  refine ev_iadd dL_law_652 ?_
  refine ev_xld (j := 3) (N := L) (f := xs) dL_law_653 rfl hi1 ?_
  refine ev_aload_n dL_law_654 rfl ?_
  refine ev_iload_n dL_law_655 rfl ?_
  refine ev_iconst (2 : Int32) dL_law_656 (by decide) ?_
  refine ev_iadd dL_law_657 ?_
  refine ev_xld (j := 3) (N := L) (f := xs) dL_law_658 rfl hi2 ?_
  refine ev_aload_n dL_law_659 rfl ?_
  refine ev_iload_n dL_law_660 rfl ?_
  refine ev_iconst (3 : Int32) dL_law_661 (by decide) ?_
  refine ev_iadd dL_law_662 ?_
  refine ev_xld (j := 3) (N := L) (f := xs) dL_law_663 rfl hi3 ?_
  refine ev_aload_n dL_law_664 rfl ?_
  refine ev_iload_n dL_law_665 rfl ?_
  refine ev_iconst (4 : Int32) dL_law_666 (by decide) ?_
  refine ev_iadd dL_law_667 ?_
  refine ev_xld (j := 3) (N := L) (f := xs) dL_law_668 rfl hi4 ?_
  refine er_VI [.int _, .int _, .int _, .int _] (bv_XL_sub L xs) lk_L_71 dL_law_669 rfl rfl rfl rfl rfl (wm_X8_law _ _ _ _ _ _ hz2) ?_
  refine ev_icmp_eq 1388 dL_law_672 (by decide) (fun _ => ?_) (fun c => absurd rfl c)
  exact hnext _ hI2
set_option maxRecDepth 100000 in
set_option maxHeartbeats 4000000 in
theorem law_c13 {I : bv_Mem → Prop} (hs : bv_S_days I) {L i : Nat} {xs : Nat → Int32} (hi1 : bv_in (nI i + 1) L = true) (hi2 : bv_in (nI i + 2) L = true) (hi3 : bv_in (nI i + 3) L = true) (hi4 : bv_in (nI i + 4) L = true) (hi5 : bv_in (nI i + 5) L = true) (hnext : ∀ mi, I mi → bv_Ev ML_law (bv_XL L xs) 2000 0 74 bv_QL 1388 [some (.ref (1000 + 3)), some (.ref 0), some (.ref 61), some (.int (nI i))] [] 74 (bv_mr mi) mi) {mi : bv_Mem} (hI : I mi) : bv_Ev ML_law (bv_XL L xs) 2000 0 74 bv_QL 677 [some (.ref (1000 + 3)), some (.ref 0), some (.ref 61), some (.int (nI i))] [] 74 (bv_mr mi) mi := by
  obtain ⟨r, m1, m2, hz1, hz2, hI2⟩ := hs (xs (nI i + 1).toNatClampNeg) mi hI
  refine ev_aload_n dL_law_677 rfl ?_
  refine ev_aload_n dL_law_678 rfl ?_
  refine ev_iload_n dL_law_679 rfl ?_
  refine ev_iconst (1 : Int32) dL_law_680 (by decide) ?_
  refine ev_iadd dL_law_681 ?_
  refine ev_xld (j := 3) (N := L) (f := xs) dL_law_682 rfl hi1 ?_
  refine er_VI [.int _] (bv_XL_sub L xs) lk_L_72 dL_law_683 rfl rfl rfl rfl rfl (wm_X7_days _ _ _ hz1) ?_
  refine ev_aload_n dL_law_686 rfl ?_
  refine ev_aload_n dL_law_687 rfl ?_
  refine ev_iload_n dL_law_688 rfl ?_
  refine ev_iconst (1 : Int32) dL_law_689 (by decide) ?_
  refine ev_iadd dL_law_690 ?_
  refine ev_xld (j := 3) (N := L) (f := xs) dL_law_691 rfl hi1 ?_
  refine er_VI [.int _] (bv_XL_sub L xs) lk_L_75 dL_law_692 rfl rfl rfl rfl rfl (wm_X8_days _ _ _ hz2) ?_
  refine ev_icmp_eq 1388 dL_law_695 (by decide) (fun _ => ?_) (fun c => absurd rfl c)
  exact hnext _ hI2
set_option maxRecDepth 100000 in
set_option maxHeartbeats 4000000 in
theorem law_c14 {I : bv_Mem → Prop} (hs : bv_S_loose I) {L i : Nat} {xs : Nat → Int32} (hi1 : bv_in (nI i + 1) L = true) (hi2 : bv_in (nI i + 2) L = true) (hi3 : bv_in (nI i + 3) L = true) (hi4 : bv_in (nI i + 4) L = true) (hi5 : bv_in (nI i + 5) L = true) (hnext : ∀ mi, I mi → bv_Ev ML_law (bv_XL L xs) 2000 0 74 bv_QL 1388 [some (.ref (1000 + 3)), some (.ref 0), some (.ref 61), some (.int (nI i))] [] 74 (bv_mr mi) mi) {mi : bv_Mem} (hI : I mi) : bv_Ev ML_law (bv_XL L xs) 2000 0 74 bv_QL 700 [some (.ref (1000 + 3)), some (.ref 0), some (.ref 61), some (.int (nI i))] [] 74 (bv_mr mi) mi := by
  obtain ⟨r, m1, m2, hz1, hz2, hI2⟩ := hs (xs (nI i + 1).toNatClampNeg) mi hI
  refine ev_aload_n dL_law_700 rfl ?_
  refine ev_aload_n dL_law_701 rfl ?_
  refine ev_iload_n dL_law_702 rfl ?_
  refine ev_iconst (1 : Int32) dL_law_703 (by decide) ?_
  refine ev_iadd dL_law_704 ?_
  refine ev_xld (j := 3) (N := L) (f := xs) dL_law_705 rfl hi1 ?_
  refine er_VI [.int _] (bv_XL_sub L xs) lk_L_76 dL_law_706 rfl rfl rfl rfl rfl (wm_X7_loose _ _ _ hz1) ?_
  refine ev_aload_n dL_law_709 rfl ?_
  refine ev_aload_n dL_law_710 rfl ?_
  refine ev_iload_n dL_law_711 rfl ?_
  refine ev_iconst (1 : Int32) dL_law_712 (by decide) ?_
  refine ev_iadd dL_law_713 ?_
  refine ev_xld (j := 3) (N := L) (f := xs) dL_law_714 rfl hi1 ?_
  refine er_VI [.int _] (bv_XL_sub L xs) lk_L_79 dL_law_715 rfl rfl rfl rfl rfl (wm_X8_loose _ _ _ hz2) ?_
  refine ev_icmp_eq 1388 dL_law_718 (by decide) (fun _ => ?_) (fun c => absurd rfl c)
  exact hnext _ hI2
set_option maxRecDepth 100000 in
set_option maxHeartbeats 4000000 in
theorem law_c15 {I : bv_Mem → Prop} (hs : bv_S_view I) {L i : Nat} {xs : Nat → Int32} (hi1 : bv_in (nI i + 1) L = true) (hi2 : bv_in (nI i + 2) L = true) (hi3 : bv_in (nI i + 3) L = true) (hi4 : bv_in (nI i + 4) L = true) (hi5 : bv_in (nI i + 5) L = true) (hnext : ∀ mi, I mi → bv_Ev ML_law (bv_XL L xs) 2000 0 74 bv_QL 1388 [some (.ref (1000 + 3)), some (.ref 0), some (.ref 61), some (.int (nI i))] [] 74 (bv_mr mi) mi) {mi : bv_Mem} (hI : I mi) : bv_Ev ML_law (bv_XL L xs) 2000 0 74 bv_QL 723 [some (.ref (1000 + 3)), some (.ref 0), some (.ref 61), some (.int (nI i))] [] 74 (bv_mr mi) mi := by
  obtain ⟨r, m1, m2, hz1, hz2, hI2⟩ := hs (xs (nI i + 1).toNatClampNeg) (xs (nI i + 2).toNatClampNeg) (xs (nI i + 3).toNatClampNeg) mi hI
  refine ev_aload_n dL_law_723 rfl ?_
  refine ev_aload_n dL_law_724 rfl ?_
  refine ev_iload_n dL_law_725 rfl ?_
  refine ev_iconst (1 : Int32) dL_law_726 (by decide) ?_
  refine ev_iadd dL_law_727 ?_
  refine ev_xld (j := 3) (N := L) (f := xs) dL_law_728 rfl hi1 ?_
  refine ev_aload_n dL_law_729 rfl ?_
  refine ev_iload_n dL_law_730 rfl ?_
  refine ev_iconst (2 : Int32) dL_law_731 (by decide) ?_
  refine ev_iadd dL_law_732 ?_
  refine ev_xld (j := 3) (N := L) (f := xs) dL_law_733 rfl hi2 ?_
  refine ev_aload_n dL_law_734 rfl ?_
  refine ev_iload_n dL_law_735 rfl ?_
  refine ev_iconst (3 : Int32) dL_law_736 (by decide) ?_
  refine ev_iadd dL_law_737 ?_
  refine ev_xld (j := 3) (N := L) (f := xs) dL_law_738 rfl hi3 ?_
  refine er_VI [.int _, .int _, .int _] (bv_XL_sub L xs) lk_L_80 dL_law_739 rfl rfl rfl rfl rfl (wm_X7_view _ _ _ _ _ hz1) ?_
  refine ev_aload_n dL_law_742 rfl ?_
  refine ev_aload_n dL_law_743 rfl ?_
  refine ev_iload_n dL_law_744 rfl ?_
  refine ev_iconst (1 : Int32) dL_law_745 (by decide) ?_
  refine ev_iadd dL_law_746 ?_
  refine ev_xld (j := 3) (N := L) (f := xs) dL_law_747 rfl hi1 ?_
  refine ev_aload_n dL_law_748 rfl ?_
  refine ev_iload_n dL_law_749 rfl ?_
  refine ev_iconst (2 : Int32) dL_law_750 (by decide) ?_
  refine ev_iadd dL_law_751 ?_
  refine ev_xld (j := 3) (N := L) (f := xs) dL_law_752 rfl hi2 ?_
  refine ev_aload_n dL_law_753 rfl ?_
  refine ev_iload_n dL_law_754 rfl ?_
  refine ev_iconst (3 : Int32) dL_law_755 (by decide) ?_
  refine ev_iadd dL_law_756 ?_
  refine ev_xld (j := 3) (N := L) (f := xs) dL_law_757 rfl hi3 ?_
  refine er_VI [.int _, .int _, .int _] (bv_XL_sub L xs) lk_L_83 dL_law_758 rfl rfl rfl rfl rfl (wm_X8_view _ _ _ _ _ hz2) ?_
  refine ev_icmp_eq 1388 dL_law_761 (by decide) (fun _ => ?_) (fun c => absurd rfl c)
  exact hnext _ hI2
set_option maxRecDepth 100000 in
set_option maxHeartbeats 4000000 in
theorem law_c16 {I : bv_Mem → Prop} (hs : bv_S_again I) {L i : Nat} {xs : Nat → Int32} (hi1 : bv_in (nI i + 1) L = true) (hi2 : bv_in (nI i + 2) L = true) (hi3 : bv_in (nI i + 3) L = true) (hi4 : bv_in (nI i + 4) L = true) (hi5 : bv_in (nI i + 5) L = true) (hnext : ∀ mi, I mi → bv_Ev ML_law (bv_XL L xs) 2000 0 74 bv_QL 1388 [some (.ref (1000 + 3)), some (.ref 0), some (.ref 61), some (.int (nI i))] [] 74 (bv_mr mi) mi) {mi : bv_Mem} (hI : I mi) : bv_Ev ML_law (bv_XL L xs) 2000 0 74 bv_QL 766 [some (.ref (1000 + 3)), some (.ref 0), some (.ref 61), some (.int (nI i))] [] 74 (bv_mr mi) mi := by
  obtain ⟨r, m1, m2, hz1, hz2, hI2⟩ := hs (xs (nI i + 1).toNatClampNeg) (xs (nI i + 2).toNatClampNeg) mi hI
  refine ev_aload_n dL_law_766 rfl ?_
  refine ev_aload_n dL_law_767 rfl ?_
  refine ev_iload_n dL_law_768 rfl ?_
  refine ev_iconst (1 : Int32) dL_law_769 (by decide) ?_
  refine ev_iadd dL_law_770 ?_
  refine ev_xld (j := 3) (N := L) (f := xs) dL_law_771 rfl hi1 ?_
  refine ev_aload_n dL_law_772 rfl ?_
  refine ev_iload_n dL_law_773 rfl ?_
  refine ev_iconst (2 : Int32) dL_law_774 (by decide) ?_
  refine ev_iadd dL_law_775 ?_
  refine ev_xld (j := 3) (N := L) (f := xs) dL_law_776 rfl hi2 ?_
  refine er_VI [.int _, .int _] (bv_XL_sub L xs) lk_L_84 dL_law_777 rfl rfl rfl rfl rfl (wm_X7_again _ _ _ _ hz1) ?_
  refine ev_aload_n dL_law_780 rfl ?_
  refine ev_aload_n dL_law_781 rfl ?_
  refine ev_iload_n dL_law_782 rfl ?_
  refine ev_iconst (1 : Int32) dL_law_783 (by decide) ?_
  refine ev_iadd dL_law_784 ?_
  refine ev_xld (j := 3) (N := L) (f := xs) dL_law_785 rfl hi1 ?_
  refine ev_aload_n dL_law_786 rfl ?_
  refine ev_iload_n dL_law_787 rfl ?_
  refine ev_iconst (2 : Int32) dL_law_788 (by decide) ?_
  refine ev_iadd dL_law_789 ?_
  refine ev_xld (j := 3) (N := L) (f := xs) dL_law_790 rfl hi2 ?_
  refine er_VI [.int _, .int _] (bv_XL_sub L xs) lk_L_87 dL_law_791 rfl rfl rfl rfl rfl (wm_X8_again _ _ _ _ hz2) ?_
  refine ev_icmp_eq 1388 dL_law_794 (by decide) (fun _ => ?_) (fun c => absurd rfl c)
  exact hnext _ hI2
set_option maxRecDepth 100000 in
set_option maxHeartbeats 4000000 in
theorem law_c17 {I : bv_Mem → Prop} (hs : bv_S_best I) {L i : Nat} {xs : Nat → Int32} (hi1 : bv_in (nI i + 1) L = true) (hi2 : bv_in (nI i + 2) L = true) (hi3 : bv_in (nI i + 3) L = true) (hi4 : bv_in (nI i + 4) L = true) (hi5 : bv_in (nI i + 5) L = true) (hnext : ∀ mi, I mi → bv_Ev ML_law (bv_XL L xs) 2000 0 74 bv_QL 1388 [some (.ref (1000 + 3)), some (.ref 0), some (.ref 61), some (.int (nI i))] [] 74 (bv_mr mi) mi) {mi : bv_Mem} (hI : I mi) : bv_Ev ML_law (bv_XL L xs) 2000 0 74 bv_QL 799 [some (.ref (1000 + 3)), some (.ref 0), some (.ref 61), some (.int (nI i))] [] 74 (bv_mr mi) mi := by
  obtain ⟨r, m1, m2, hz1, hz2, hI2⟩ := hs (xs (nI i + 1).toNatClampNeg) mi hI
  refine ev_aload_n dL_law_799 rfl ?_
  refine ev_aload_n dL_law_800 rfl ?_
  refine ev_iload_n dL_law_801 rfl ?_
  refine ev_iconst (1 : Int32) dL_law_802 (by decide) ?_
  refine ev_iadd dL_law_803 ?_
  refine ev_xld (j := 3) (N := L) (f := xs) dL_law_804 rfl hi1 ?_
  refine er_VI [.int _] (bv_XL_sub L xs) lk_L_88 dL_law_805 rfl rfl rfl rfl rfl (wm_X7_best _ _ _ hz1) ?_
  refine ev_aload_n dL_law_808 rfl ?_
  refine ev_aload_n dL_law_809 rfl ?_
  refine ev_iload_n dL_law_810 rfl ?_
  refine ev_iconst (1 : Int32) dL_law_811 (by decide) ?_
  refine ev_iadd dL_law_812 ?_
  refine ev_xld (j := 3) (N := L) (f := xs) dL_law_813 rfl hi1 ?_
  refine er_VI [.int _] (bv_XL_sub L xs) lk_L_91 dL_law_814 rfl rfl rfl rfl rfl (wm_X8_best _ _ _ hz2) ?_
  refine ev_icmp_eq 1388 dL_law_817 (by decide) (fun _ => ?_) (fun c => absurd rfl c)
  exact hnext _ hI2
set_option maxRecDepth 100000 in
set_option maxHeartbeats 4000000 in
theorem law_c18 {I : bv_Mem → Prop} (hs : bv_S_tower I) {L i : Nat} {xs : Nat → Int32} (hi1 : bv_in (nI i + 1) L = true) (hi2 : bv_in (nI i + 2) L = true) (hi3 : bv_in (nI i + 3) L = true) (hi4 : bv_in (nI i + 4) L = true) (hi5 : bv_in (nI i + 5) L = true) (hnext : ∀ mi, I mi → bv_Ev ML_law (bv_XL L xs) 2000 0 74 bv_QL 1388 [some (.ref (1000 + 3)), some (.ref 0), some (.ref 61), some (.int (nI i))] [] 74 (bv_mr mi) mi) {mi : bv_Mem} (hI : I mi) : bv_Ev ML_law (bv_XL L xs) 2000 0 74 bv_QL 822 [some (.ref (1000 + 3)), some (.ref 0), some (.ref 61), some (.int (nI i))] [] 74 (bv_mr mi) mi := by
  obtain ⟨r, m1, m2, hz1, hz2, hI2⟩ := hs (xs (nI i + 1).toNatClampNeg) (xs (nI i + 2).toNatClampNeg) mi hI
  refine ev_aload_n dL_law_822 rfl ?_
  refine ev_aload_n dL_law_823 rfl ?_
  refine ev_iload_n dL_law_824 rfl ?_
  refine ev_iconst (1 : Int32) dL_law_825 (by decide) ?_
  refine ev_iadd dL_law_826 ?_
  refine ev_xld (j := 3) (N := L) (f := xs) dL_law_827 rfl hi1 ?_
  refine ev_aload_n dL_law_828 rfl ?_
  refine ev_iload_n dL_law_829 rfl ?_
  refine ev_iconst (2 : Int32) dL_law_830 (by decide) ?_
  refine ev_iadd dL_law_831 ?_
  refine ev_xld (j := 3) (N := L) (f := xs) dL_law_832 rfl hi2 ?_
  refine er_VI [.int _, .int _] (bv_XL_sub L xs) lk_L_92 dL_law_833 rfl rfl rfl rfl rfl (wm_X7_tower _ _ _ _ hz1) ?_
  refine ev_aload_n dL_law_836 rfl ?_
  refine ev_aload_n dL_law_837 rfl ?_
  refine ev_iload_n dL_law_838 rfl ?_
  refine ev_iconst (1 : Int32) dL_law_839 (by decide) ?_
  refine ev_iadd dL_law_840 ?_
  refine ev_xld (j := 3) (N := L) (f := xs) dL_law_841 rfl hi1 ?_
  refine ev_aload_n dL_law_842 rfl ?_
  refine ev_iload_n dL_law_843 rfl ?_
  refine ev_iconst (2 : Int32) dL_law_844 (by decide) ?_
  refine ev_iadd dL_law_845 ?_
  refine ev_xld (j := 3) (N := L) (f := xs) dL_law_846 rfl hi2 ?_
  refine er_VI [.int _, .int _] (bv_XL_sub L xs) lk_L_95 dL_law_847 rfl rfl rfl rfl rfl (wm_X8_tower _ _ _ _ hz2) ?_
  refine ev_icmp_eq 1388 dL_law_850 (by decide) (fun _ => ?_) (fun c => absurd rfl c)
  exact hnext _ hI2
set_option maxRecDepth 100000 in
set_option maxHeartbeats 4000000 in
theorem law_c19 {I : bv_Mem → Prop} (hs : bv_S_mutual I) {L i : Nat} {xs : Nat → Int32} (hi1 : bv_in (nI i + 1) L = true) (hi2 : bv_in (nI i + 2) L = true) (hi3 : bv_in (nI i + 3) L = true) (hi4 : bv_in (nI i + 4) L = true) (hi5 : bv_in (nI i + 5) L = true) (hnext : ∀ mi, I mi → bv_Ev ML_law (bv_XL L xs) 2000 0 74 bv_QL 1388 [some (.ref (1000 + 3)), some (.ref 0), some (.ref 61), some (.int (nI i))] [] 74 (bv_mr mi) mi) {mi : bv_Mem} (hI : I mi) : bv_Ev ML_law (bv_XL L xs) 2000 0 74 bv_QL 855 [some (.ref (1000 + 3)), some (.ref 0), some (.ref 61), some (.int (nI i))] [] 74 (bv_mr mi) mi := by
  obtain ⟨r, hz1, hz2⟩ := hs  mi hI
  have hI2 := hI
  refine ev_aload_n dL_law_855 rfl ?_
  refine er_VP [] (bv_XL_sub L xs) lk_L_96 dL_law_856 rfl rfl rfl rfl rfl (wm_X7_mutual  _ _ hz1) ?_
  refine ev_aload_n dL_law_859 rfl ?_
  refine er_VP [] (bv_XL_sub L xs) lk_L_100 dL_law_860 rfl rfl rfl rfl rfl (wm_X8_mutual  _ _ hz2) ?_
  refine ev_icmp_eq 1388 dL_law_863 (by decide) (fun _ => ?_) (fun c => absurd rfl c)
  exact hnext _ hI2
set_option maxRecDepth 100000 in
set_option maxHeartbeats 4000000 in
theorem law_c20 {I : bv_Mem → Prop} (hs : bv_S_unseen I) {L i : Nat} {xs : Nat → Int32} (hi1 : bv_in (nI i + 1) L = true) (hi2 : bv_in (nI i + 2) L = true) (hi3 : bv_in (nI i + 3) L = true) (hi4 : bv_in (nI i + 4) L = true) (hi5 : bv_in (nI i + 5) L = true) (hnext : ∀ mi, I mi → bv_Ev ML_law (bv_XL L xs) 2000 0 74 bv_QL 1388 [some (.ref (1000 + 3)), some (.ref 0), some (.ref 61), some (.int (nI i))] [] 74 (bv_mr mi) mi) {mi : bv_Mem} (hI : I mi) : bv_Ev ML_law (bv_XL L xs) 2000 0 74 bv_QL 868 [some (.ref (1000 + 3)), some (.ref 0), some (.ref 61), some (.int (nI i))] [] 74 (bv_mr mi) mi := by
  obtain ⟨r, hz1, hz2⟩ := hs  mi hI
  have hI2 := hI
  refine ev_aload_n dL_law_868 rfl ?_
  refine er_VP [] (bv_XL_sub L xs) lk_L_101 dL_law_869 rfl rfl rfl rfl rfl (wm_X7_unseen  _ _ hz1) ?_
  refine ev_aload_n dL_law_872 rfl ?_
  refine er_VP [] (bv_XL_sub L xs) lk_L_104 dL_law_873 rfl rfl rfl rfl rfl (wm_X8_unseen  _ _ hz2) ?_
  refine ev_icmp_eq 1388 dL_law_876 (by decide) (fun _ => ?_) (fun c => absurd rfl c)
  exact hnext _ hI2
set_option maxRecDepth 100000 in
set_option maxHeartbeats 4000000 in
theorem law_c21 {I : bv_Mem → Prop} (hs : bv_S_cover I) {L i : Nat} {xs : Nat → Int32} (hi1 : bv_in (nI i + 1) L = true) (hi2 : bv_in (nI i + 2) L = true) (hi3 : bv_in (nI i + 3) L = true) (hi4 : bv_in (nI i + 4) L = true) (hi5 : bv_in (nI i + 5) L = true) (hnext : ∀ mi, I mi → bv_Ev ML_law (bv_XL L xs) 2000 0 74 bv_QL 1388 [some (.ref (1000 + 3)), some (.ref 0), some (.ref 61), some (.int (nI i))] [] 74 (bv_mr mi) mi) {mi : bv_Mem} (hI : I mi) : bv_Ev ML_law (bv_XL L xs) 2000 0 74 bv_QL 881 [some (.ref (1000 + 3)), some (.ref 0), some (.ref 61), some (.int (nI i))] [] 74 (bv_mr mi) mi := by
  obtain ⟨r, m1, m2, hz1, hz2, hI2⟩ := hs (xs (nI i + 1).toNatClampNeg) mi hI
  refine ev_aload_n dL_law_881 rfl ?_
  refine ev_aload_n dL_law_882 rfl ?_
  refine ev_iload_n dL_law_883 rfl ?_
  refine ev_iconst (1 : Int32) dL_law_884 (by decide) ?_
  refine ev_iadd dL_law_885 ?_
  refine ev_xld (j := 3) (N := L) (f := xs) dL_law_886 rfl hi1 ?_
  refine er_VI [.int _] (bv_XL_sub L xs) lk_L_105 dL_law_887 rfl rfl rfl rfl rfl (wm_X7_cover _ _ _ hz1) ?_
  refine ev_aload_n dL_law_890 rfl ?_
  refine ev_aload_n dL_law_891 rfl ?_
  refine ev_iload_n dL_law_892 rfl ?_
  refine ev_iconst (1 : Int32) dL_law_893 (by decide) ?_
  refine ev_iadd dL_law_894 ?_
  refine ev_xld (j := 3) (N := L) (f := xs) dL_law_895 rfl hi1 ?_
  refine er_VI [.int _] (bv_XL_sub L xs) lk_L_108 dL_law_896 rfl rfl rfl rfl rfl (wm_X8_cover _ _ _ hz2) ?_
  refine ev_icmp_eq 1388 dL_law_899 (by decide) (fun _ => ?_) (fun c => absurd rfl c)
  exact hnext _ hI2
set_option maxRecDepth 100000 in
set_option maxHeartbeats 4000000 in
theorem law_c22 {I : bv_Mem → Prop} (hs : bv_S_keeps I) {L i : Nat} {xs : Nat → Int32} (hi1 : bv_in (nI i + 1) L = true) (hi2 : bv_in (nI i + 2) L = true) (hi3 : bv_in (nI i + 3) L = true) (hi4 : bv_in (nI i + 4) L = true) (hi5 : bv_in (nI i + 5) L = true) (hnext : ∀ mi, I mi → bv_Ev ML_law (bv_XL L xs) 2000 0 74 bv_QL 1388 [some (.ref (1000 + 3)), some (.ref 0), some (.ref 61), some (.int (nI i))] [] 74 (bv_mr mi) mi) {mi : bv_Mem} (hI : I mi) : bv_Ev ML_law (bv_XL L xs) 2000 0 74 bv_QL 904 [some (.ref (1000 + 3)), some (.ref 0), some (.ref 61), some (.int (nI i))] [] 74 (bv_mr mi) mi := by
  obtain ⟨r, m1, m2, hz1, hz2, hI2⟩ := hs (xs (nI i + 1).toNatClampNeg) mi hI
  refine ev_aload_n dL_law_904 rfl ?_
  refine ev_aload_n dL_law_905 rfl ?_
  refine ev_iload_n dL_law_906 rfl ?_
  refine ev_iconst (1 : Int32) dL_law_907 (by decide) ?_
  refine ev_iadd dL_law_908 ?_
  refine ev_xld (j := 3) (N := L) (f := xs) dL_law_909 rfl hi1 ?_
  refine er_VI [.int _] (bv_XL_sub L xs) lk_L_109 dL_law_910 rfl rfl rfl rfl rfl (wm_X7_keeps _ _ _ hz1) ?_
  refine ev_aload_n dL_law_913 rfl ?_
  refine ev_aload_n dL_law_914 rfl ?_
  refine ev_iload_n dL_law_915 rfl ?_
  refine ev_iconst (1 : Int32) dL_law_916 (by decide) ?_
  refine ev_iadd dL_law_917 ?_
  refine ev_xld (j := 3) (N := L) (f := xs) dL_law_918 rfl hi1 ?_
  refine er_VI [.int _] (bv_XL_sub L xs) lk_L_112 dL_law_919 rfl rfl rfl rfl rfl (wm_X8_keeps _ _ _ hz2) ?_
  refine ev_icmp_eq 1388 dL_law_922 (by decide) (fun _ => ?_) (fun c => absurd rfl c)
  exact hnext _ hI2
set_option maxRecDepth 100000 in
set_option maxHeartbeats 4000000 in
theorem law_c23 {I : bv_Mem → Prop} (hs : bv_S_blend I) {L i : Nat} {xs : Nat → Int32} (hi1 : bv_in (nI i + 1) L = true) (hi2 : bv_in (nI i + 2) L = true) (hi3 : bv_in (nI i + 3) L = true) (hi4 : bv_in (nI i + 4) L = true) (hi5 : bv_in (nI i + 5) L = true) (hnext : ∀ mi, I mi → bv_Ev ML_law (bv_XL L xs) 2000 0 74 bv_QL 1388 [some (.ref (1000 + 3)), some (.ref 0), some (.ref 61), some (.int (nI i))] [] 74 (bv_mr mi) mi) {mi : bv_Mem} (hI : I mi) : bv_Ev ML_law (bv_XL L xs) 2000 0 74 bv_QL 927 [some (.ref (1000 + 3)), some (.ref 0), some (.ref 61), some (.int (nI i))] [] 74 (bv_mr mi) mi := by
  obtain ⟨r, m1, m2, hz1, hz2, hI2⟩ := hs (xs (nI i + 1).toNatClampNeg) (xs (nI i + 2).toNatClampNeg) mi hI
  refine ev_aload_n dL_law_927 rfl ?_
  refine ev_aload_n dL_law_928 rfl ?_
  refine ev_iload_n dL_law_929 rfl ?_
  refine ev_iconst (1 : Int32) dL_law_930 (by decide) ?_
  refine ev_iadd dL_law_931 ?_
  refine ev_xld (j := 3) (N := L) (f := xs) dL_law_932 rfl hi1 ?_
  refine ev_aload_n dL_law_933 rfl ?_
  refine ev_iload_n dL_law_934 rfl ?_
  refine ev_iconst (2 : Int32) dL_law_935 (by decide) ?_
  refine ev_iadd dL_law_936 ?_
  refine ev_xld (j := 3) (N := L) (f := xs) dL_law_937 rfl hi2 ?_
  refine er_VI [.int _, .int _] (bv_XL_sub L xs) lk_L_113 dL_law_938 rfl rfl rfl rfl rfl (wm_X7_blend _ _ _ _ hz1) ?_
  refine ev_aload_n dL_law_941 rfl ?_
  refine ev_aload_n dL_law_942 rfl ?_
  refine ev_iload_n dL_law_943 rfl ?_
  refine ev_iconst (1 : Int32) dL_law_944 (by decide) ?_
  refine ev_iadd dL_law_945 ?_
  refine ev_xld (j := 3) (N := L) (f := xs) dL_law_946 rfl hi1 ?_
  refine ev_aload_n dL_law_947 rfl ?_
  refine ev_iload_n dL_law_948 rfl ?_
  refine ev_iconst (2 : Int32) dL_law_949 (by decide) ?_
  refine ev_iadd dL_law_950 ?_
  refine ev_xld (j := 3) (N := L) (f := xs) dL_law_951 rfl hi2 ?_
  refine er_VI [.int _, .int _] (bv_XL_sub L xs) lk_L_116 dL_law_952 rfl rfl rfl rfl rfl (wm_X8_blend _ _ _ _ hz2) ?_
  refine ev_icmp_eq 1388 dL_law_955 (by decide) (fun _ => ?_) (fun c => absurd rfl c)
  exact hnext _ hI2
set_option maxRecDepth 100000 in
set_option maxHeartbeats 4000000 in
theorem law_c24 {I : bv_Mem → Prop} (hs : bv_S_thief I) {L i : Nat} {xs : Nat → Int32} (hi1 : bv_in (nI i + 1) L = true) (hi2 : bv_in (nI i + 2) L = true) (hi3 : bv_in (nI i + 3) L = true) (hi4 : bv_in (nI i + 4) L = true) (hi5 : bv_in (nI i + 5) L = true) (hnext : ∀ mi, I mi → bv_Ev ML_law (bv_XL L xs) 2000 0 74 bv_QL 1388 [some (.ref (1000 + 3)), some (.ref 0), some (.ref 61), some (.int (nI i))] [] 74 (bv_mr mi) mi) {mi : bv_Mem} (hI : I mi) : bv_Ev ML_law (bv_XL L xs) 2000 0 74 bv_QL 960 [some (.ref (1000 + 3)), some (.ref 0), some (.ref 61), some (.int (nI i))] [] 74 (bv_mr mi) mi := by
  obtain ⟨r, m1, m2, hz1, hz2, hI2⟩ := hs (xs (nI i + 1).toNatClampNeg) mi hI
  refine ev_aload_n dL_law_960 rfl ?_
  refine ev_aload_n dL_law_961 rfl ?_
  refine ev_iload_n dL_law_962 rfl ?_
  refine ev_iconst (1 : Int32) dL_law_963 (by decide) ?_
  refine ev_iadd dL_law_964 ?_
  refine ev_xld (j := 3) (N := L) (f := xs) dL_law_965 rfl hi1 ?_
  refine er_VI [.int _] (bv_XL_sub L xs) lk_L_117 dL_law_966 rfl rfl rfl rfl rfl (wm_X7_thief _ _ _ hz1) ?_
  refine ev_aload_n dL_law_969 rfl ?_
  refine ev_aload_n dL_law_970 rfl ?_
  refine ev_iload_n dL_law_971 rfl ?_
  refine ev_iconst (1 : Int32) dL_law_972 (by decide) ?_
  refine ev_iadd dL_law_973 ?_
  refine ev_xld (j := 3) (N := L) (f := xs) dL_law_974 rfl hi1 ?_
  refine er_VI [.int _] (bv_XL_sub L xs) lk_L_120 dL_law_975 rfl rfl rfl rfl rfl (wm_X8_thief _ _ _ hz2) ?_
  refine ev_icmp_eq 1388 dL_law_978 (by decide) (fun _ => ?_) (fun c => absurd rfl c)
  exact hnext _ hI2
set_option maxRecDepth 100000 in
set_option maxHeartbeats 4000000 in
theorem law_c25 {I : bv_Mem → Prop} (hs : bv_S_both I) {L i : Nat} {xs : Nat → Int32} (hi1 : bv_in (nI i + 1) L = true) (hi2 : bv_in (nI i + 2) L = true) (hi3 : bv_in (nI i + 3) L = true) (hi4 : bv_in (nI i + 4) L = true) (hi5 : bv_in (nI i + 5) L = true) (hnext : ∀ mi, I mi → bv_Ev ML_law (bv_XL L xs) 2000 0 74 bv_QL 1388 [some (.ref (1000 + 3)), some (.ref 0), some (.ref 61), some (.int (nI i))] [] 74 (bv_mr mi) mi) {mi : bv_Mem} (hI : I mi) : bv_Ev ML_law (bv_XL L xs) 2000 0 74 bv_QL 983 [some (.ref (1000 + 3)), some (.ref 0), some (.ref 61), some (.int (nI i))] [] 74 (bv_mr mi) mi := by
  obtain ⟨r, hz1, hz2⟩ := hs  mi hI
  have hI2 := hI
  refine ev_aload_n dL_law_983 rfl ?_
  refine er_VP [] (bv_XL_sub L xs) lk_L_121 dL_law_984 rfl rfl rfl rfl rfl (wm_X7_both  _ _ hz1) ?_
  refine ev_aload_n dL_law_987 rfl ?_
  refine er_VP [] (bv_XL_sub L xs) lk_L_124 dL_law_988 rfl rfl rfl rfl rfl (wm_X8_both  _ _ hz2) ?_
  refine ev_icmp_eq 1388 dL_law_991 (by decide) (fun _ => ?_) (fun c => absurd rfl c)
  exact hnext _ hI2
set_option maxRecDepth 100000 in
set_option maxHeartbeats 4000000 in
theorem law_c26 {I : bv_Mem → Prop} (hs : bv_S_seed I) {L i : Nat} {xs : Nat → Int32} (hi1 : bv_in (nI i + 1) L = true) (hi2 : bv_in (nI i + 2) L = true) (hi3 : bv_in (nI i + 3) L = true) (hi4 : bv_in (nI i + 4) L = true) (hi5 : bv_in (nI i + 5) L = true) (hnext : ∀ mi, I mi → bv_Ev ML_law (bv_XL L xs) 2000 0 74 bv_QL 1388 [some (.ref (1000 + 3)), some (.ref 0), some (.ref 61), some (.int (nI i))] [] 74 (bv_mr mi) mi) {mi : bv_Mem} (hI : I mi) : bv_Ev ML_law (bv_XL L xs) 2000 0 74 bv_QL 996 [some (.ref (1000 + 3)), some (.ref 0), some (.ref 61), some (.int (nI i))] [] 74 (bv_mr mi) mi := by
  obtain ⟨r, m1, m2, hz1, hz2, hI2⟩ := hs (xs (nI i + 1).toNatClampNeg) mi hI
  refine ev_aload_n dL_law_996 rfl ?_
  refine ev_aload_n dL_law_997 rfl ?_
  refine ev_iload_n dL_law_998 rfl ?_
  refine ev_iconst (1 : Int32) dL_law_999 (by decide) ?_
  refine ev_iadd dL_law_1000 ?_
  refine ev_xld (j := 3) (N := L) (f := xs) dL_law_1001 rfl hi1 ?_
  refine er_VI [.int _] (bv_XL_sub L xs) lk_L_125 dL_law_1002 rfl rfl rfl rfl rfl (wm_X7_seed _ _ _ hz1) ?_
  refine ev_aload_n dL_law_1005 rfl ?_
  refine ev_aload_n dL_law_1006 rfl ?_
  refine ev_iload_n dL_law_1007 rfl ?_
  refine ev_iconst (1 : Int32) dL_law_1008 (by decide) ?_
  refine ev_iadd dL_law_1009 ?_
  refine ev_xld (j := 3) (N := L) (f := xs) dL_law_1010 rfl hi1 ?_
  refine er_VI [.int _] (bv_XL_sub L xs) lk_L_128 dL_law_1011 rfl rfl rfl rfl rfl (wm_X8_seed _ _ _ hz2) ?_
  refine ev_icmp_eq 1388 dL_law_1014 (by decide) (fun _ => ?_) (fun c => absurd rfl c)
  exact hnext _ hI2
set_option maxRecDepth 100000 in
set_option maxHeartbeats 4000000 in
theorem law_c27 {I : bv_Mem → Prop} (hs : bv_S_voice I) {L i : Nat} {xs : Nat → Int32} (hi1 : bv_in (nI i + 1) L = true) (hi2 : bv_in (nI i + 2) L = true) (hi3 : bv_in (nI i + 3) L = true) (hi4 : bv_in (nI i + 4) L = true) (hi5 : bv_in (nI i + 5) L = true) (hnext : ∀ mi, I mi → bv_Ev ML_law (bv_XL L xs) 2000 0 74 bv_QL 1388 [some (.ref (1000 + 3)), some (.ref 0), some (.ref 61), some (.int (nI i))] [] 74 (bv_mr mi) mi) {mi : bv_Mem} (hI : I mi) : bv_Ev ML_law (bv_XL L xs) 2000 0 74 bv_QL 1019 [some (.ref (1000 + 3)), some (.ref 0), some (.ref 61), some (.int (nI i))] [] 74 (bv_mr mi) mi := by
  obtain ⟨r, m1, m2, hz1, hz2, hI2⟩ := hs (xs (nI i + 1).toNatClampNeg) (xs (nI i + 2).toNatClampNeg) (xs (nI i + 3).toNatClampNeg) mi hI
  refine ev_aload_n dL_law_1019 rfl ?_
  refine ev_aload_n dL_law_1020 rfl ?_
  refine ev_iload_n dL_law_1021 rfl ?_
  refine ev_iconst (1 : Int32) dL_law_1022 (by decide) ?_
  refine ev_iadd dL_law_1023 ?_
  refine ev_xld (j := 3) (N := L) (f := xs) dL_law_1024 rfl hi1 ?_
  refine ev_aload_n dL_law_1025 rfl ?_
  refine ev_iload_n dL_law_1026 rfl ?_
  refine ev_iconst (2 : Int32) dL_law_1027 (by decide) ?_
  refine ev_iadd dL_law_1028 ?_
  refine ev_xld (j := 3) (N := L) (f := xs) dL_law_1029 rfl hi2 ?_
  refine ev_aload_n dL_law_1030 rfl ?_
  refine ev_iload_n dL_law_1031 rfl ?_
  refine ev_iconst (3 : Int32) dL_law_1032 (by decide) ?_
  refine ev_iadd dL_law_1033 ?_
  refine ev_xld (j := 3) (N := L) (f := xs) dL_law_1034 rfl hi3 ?_
  refine er_VI [.int _, .int _, .int _] (bv_XL_sub L xs) lk_L_129 dL_law_1035 rfl rfl rfl rfl rfl (wm_X7_voice _ _ _ _ _ hz1) ?_
  refine ev_aload_n dL_law_1038 rfl ?_
  refine ev_aload_n dL_law_1039 rfl ?_
  refine ev_iload_n dL_law_1040 rfl ?_
  refine ev_iconst (1 : Int32) dL_law_1041 (by decide) ?_
  refine ev_iadd dL_law_1042 ?_
  refine ev_xld (j := 3) (N := L) (f := xs) dL_law_1043 rfl hi1 ?_
  refine ev_aload_n dL_law_1044 rfl ?_
  refine ev_iload_n dL_law_1045 rfl ?_
  refine ev_iconst (2 : Int32) dL_law_1046 (by decide) ?_
  refine ev_iadd dL_law_1047 ?_
  refine ev_xld (j := 3) (N := L) (f := xs) dL_law_1048 rfl hi2 ?_
  refine ev_aload_n dL_law_1049 rfl ?_
  refine ev_iload_n dL_law_1050 rfl ?_
  refine ev_iconst (3 : Int32) dL_law_1051 (by decide) ?_
  refine ev_iadd dL_law_1052 ?_
  refine ev_xld (j := 3) (N := L) (f := xs) dL_law_1053 rfl hi3 ?_
  refine er_VI [.int _, .int _, .int _] (bv_XL_sub L xs) lk_L_132 dL_law_1054 rfl rfl rfl rfl rfl (wm_X8_voice _ _ _ _ _ hz2) ?_
  refine ev_icmp_eq 1388 dL_law_1057 (by decide) (fun _ => ?_) (fun c => absurd rfl c)
  exact hnext _ hI2
set_option maxRecDepth 100000 in
set_option maxHeartbeats 4000000 in
theorem law_c28 {I : bv_Mem → Prop} (hs : bv_S_trace I) {L i : Nat} {xs : Nat → Int32} (hi1 : bv_in (nI i + 1) L = true) (hi2 : bv_in (nI i + 2) L = true) (hi3 : bv_in (nI i + 3) L = true) (hi4 : bv_in (nI i + 4) L = true) (hi5 : bv_in (nI i + 5) L = true) (hnext : ∀ mi, I mi → bv_Ev ML_law (bv_XL L xs) 2000 0 74 bv_QL 1388 [some (.ref (1000 + 3)), some (.ref 0), some (.ref 61), some (.int (nI i))] [] 74 (bv_mr mi) mi) {mi : bv_Mem} (hI : I mi) : bv_Ev ML_law (bv_XL L xs) 2000 0 74 bv_QL 1062 [some (.ref (1000 + 3)), some (.ref 0), some (.ref 61), some (.int (nI i))] [] 74 (bv_mr mi) mi := by
  obtain ⟨r, m1, m2, hz1, hz2, hI2⟩ := hs (xs (nI i + 1).toNatClampNeg) mi hI
  refine ev_aload_n dL_law_1062 rfl ?_
  refine ev_aload_n dL_law_1063 rfl ?_
  refine ev_iload_n dL_law_1064 rfl ?_
  refine ev_iconst (1 : Int32) dL_law_1065 (by decide) ?_
  refine ev_iadd dL_law_1066 ?_
  refine ev_xld (j := 3) (N := L) (f := xs) dL_law_1067 rfl hi1 ?_
  refine er_VI [.int _] (bv_XL_sub L xs) lk_L_133 dL_law_1068 rfl rfl rfl rfl rfl (wm_X7_trace _ _ _ hz1) ?_
  refine ev_aload_n dL_law_1071 rfl ?_
  refine ev_aload_n dL_law_1072 rfl ?_
  refine ev_iload_n dL_law_1073 rfl ?_
  refine ev_iconst (1 : Int32) dL_law_1074 (by decide) ?_
  refine ev_iadd dL_law_1075 ?_
  refine ev_xld (j := 3) (N := L) (f := xs) dL_law_1076 rfl hi1 ?_
  refine er_VI [.int _] (bv_XL_sub L xs) lk_L_136 dL_law_1077 rfl rfl rfl rfl rfl (wm_X8_trace _ _ _ hz2) ?_
  refine ev_icmp_eq 1388 dL_law_1080 (by decide) (fun _ => ?_) (fun c => absurd rfl c)
  exact hnext _ hI2
set_option maxRecDepth 100000 in
set_option maxHeartbeats 4000000 in
theorem law_c29 {I : bv_Mem → Prop} (hs : bv_S_sheet I) {L i : Nat} {xs : Nat → Int32} (hi1 : bv_in (nI i + 1) L = true) (hi2 : bv_in (nI i + 2) L = true) (hi3 : bv_in (nI i + 3) L = true) (hi4 : bv_in (nI i + 4) L = true) (hi5 : bv_in (nI i + 5) L = true) (hnext : ∀ mi, I mi → bv_Ev ML_law (bv_XL L xs) 2000 0 74 bv_QL 1388 [some (.ref (1000 + 3)), some (.ref 0), some (.ref 61), some (.int (nI i))] [] 74 (bv_mr mi) mi) {mi : bv_Mem} (hI : I mi) : bv_Ev ML_law (bv_XL L xs) 2000 0 74 bv_QL 1085 [some (.ref (1000 + 3)), some (.ref 0), some (.ref 61), some (.int (nI i))] [] 74 (bv_mr mi) mi := by
  obtain ⟨r, m1, m2, hz1, hz2, hI2⟩ := hs (xs (nI i + 1).toNatClampNeg) (xs (nI i + 2).toNatClampNeg) (xs (nI i + 3).toNatClampNeg) mi hI
  refine ev_aload_n dL_law_1085 rfl ?_
  refine ev_aload_n dL_law_1086 rfl ?_
  refine ev_iload_n dL_law_1087 rfl ?_
  refine ev_iconst (1 : Int32) dL_law_1088 (by decide) ?_
  refine ev_iadd dL_law_1089 ?_
  refine ev_xld (j := 3) (N := L) (f := xs) dL_law_1090 rfl hi1 ?_
  refine ev_aload_n dL_law_1091 rfl ?_
  refine ev_iload_n dL_law_1092 rfl ?_
  refine ev_iconst (2 : Int32) dL_law_1093 (by decide) ?_
  refine ev_iadd dL_law_1094 ?_
  refine ev_xld (j := 3) (N := L) (f := xs) dL_law_1095 rfl hi2 ?_
  refine ev_aload_n dL_law_1096 rfl ?_
  refine ev_iload_n dL_law_1097 rfl ?_
  refine ev_iconst (3 : Int32) dL_law_1098 (by decide) ?_
  refine ev_iadd dL_law_1099 ?_
  refine ev_xld (j := 3) (N := L) (f := xs) dL_law_1100 rfl hi3 ?_
  refine er_VI [.int _, .int _, .int _] (bv_XL_sub L xs) lk_L_137 dL_law_1101 rfl rfl rfl rfl rfl (wm_X7_sheet _ _ _ _ _ hz1) ?_
  refine ev_aload_n dL_law_1104 rfl ?_
  refine ev_aload_n dL_law_1105 rfl ?_
  refine ev_iload_n dL_law_1106 rfl ?_
  refine ev_iconst (1 : Int32) dL_law_1107 (by decide) ?_
  refine ev_iadd dL_law_1108 ?_
  refine ev_xld (j := 3) (N := L) (f := xs) dL_law_1109 rfl hi1 ?_
  refine ev_aload_n dL_law_1110 rfl ?_
  refine ev_iload_n dL_law_1111 rfl ?_
  refine ev_iconst (2 : Int32) dL_law_1112 (by decide) ?_
  refine ev_iadd dL_law_1113 ?_
  refine ev_xld (j := 3) (N := L) (f := xs) dL_law_1114 rfl hi2 ?_
  refine ev_aload_n dL_law_1115 rfl ?_
  refine ev_iload_n dL_law_1116 rfl ?_
  refine ev_iconst (3 : Int32) dL_law_1117 (by decide) ?_
  refine ev_iadd dL_law_1118 ?_
  refine ev_xld (j := 3) (N := L) (f := xs) dL_law_1119 rfl hi3 ?_
  refine er_VI [.int _, .int _, .int _] (bv_XL_sub L xs) lk_L_140 dL_law_1120 rfl rfl rfl rfl rfl (wm_X8_sheet _ _ _ _ _ hz2) ?_
  refine ev_icmp_eq 1388 dL_law_1123 (by decide) (fun _ => ?_) (fun c => absurd rfl c)
  exact hnext _ hI2
set_option maxRecDepth 100000 in
set_option maxHeartbeats 4000000 in
theorem law_c30 {I : bv_Mem → Prop} (hs : bv_S_put I) {L i : Nat} {xs : Nat → Int32} (hi1 : bv_in (nI i + 1) L = true) (hi2 : bv_in (nI i + 2) L = true) (hi3 : bv_in (nI i + 3) L = true) (hi4 : bv_in (nI i + 4) L = true) (hi5 : bv_in (nI i + 5) L = true) (hnext : ∀ mi, I mi → bv_Ev ML_law (bv_XL L xs) 2000 0 74 bv_QL 1388 [some (.ref (1000 + 3)), some (.ref 0), some (.ref 61), some (.int (nI i))] [] 74 (bv_mr mi) mi) {mi : bv_Mem} (hI : I mi) : bv_Ev ML_law (bv_XL L xs) 2000 0 74 bv_QL 1128 [some (.ref (1000 + 3)), some (.ref 0), some (.ref 61), some (.int (nI i))] [] 74 (bv_mr mi) mi := by
  obtain ⟨r, m1, m2, hz1, hz2, hI2⟩ := hs (xs (nI i + 1).toNatClampNeg) (xs (nI i + 2).toNatClampNeg) (xs (nI i + 3).toNatClampNeg) mi hI
  refine ev_aload_n dL_law_1128 rfl ?_
  refine ev_aload_n dL_law_1129 rfl ?_
  refine ev_iload_n dL_law_1130 rfl ?_
  refine ev_iconst (1 : Int32) dL_law_1131 (by decide) ?_
  refine ev_iadd dL_law_1132 ?_
  refine ev_xld (j := 3) (N := L) (f := xs) dL_law_1133 rfl hi1 ?_
  refine ev_aload_n dL_law_1134 rfl ?_
  refine ev_iload_n dL_law_1135 rfl ?_
  refine ev_iconst (2 : Int32) dL_law_1136 (by decide) ?_
  refine ev_iadd dL_law_1137 ?_
  refine ev_xld (j := 3) (N := L) (f := xs) dL_law_1138 rfl hi2 ?_
  refine ev_aload_n dL_law_1139 rfl ?_
  refine ev_iload_n dL_law_1140 rfl ?_
  refine ev_iconst (3 : Int32) dL_law_1141 (by decide) ?_
  refine ev_iadd dL_law_1142 ?_
  refine ev_xld (j := 3) (N := L) (f := xs) dL_law_1143 rfl hi3 ?_
  refine er_VI [.int _, .int _, .int _] (bv_XL_sub L xs) lk_L_141 dL_law_1144 rfl rfl rfl rfl rfl (wm_X7_put _ _ _ _ _ hz1) ?_
  refine ev_aload_n dL_law_1147 rfl ?_
  refine ev_aload_n dL_law_1148 rfl ?_
  refine ev_iload_n dL_law_1149 rfl ?_
  refine ev_iconst (1 : Int32) dL_law_1150 (by decide) ?_
  refine ev_iadd dL_law_1151 ?_
  refine ev_xld (j := 3) (N := L) (f := xs) dL_law_1152 rfl hi1 ?_
  refine ev_aload_n dL_law_1153 rfl ?_
  refine ev_iload_n dL_law_1154 rfl ?_
  refine ev_iconst (2 : Int32) dL_law_1155 (by decide) ?_
  refine ev_iadd dL_law_1156 ?_
  refine ev_xld (j := 3) (N := L) (f := xs) dL_law_1157 rfl hi2 ?_
  refine ev_aload_n dL_law_1158 rfl ?_
  refine ev_iload_n dL_law_1159 rfl ?_
  refine ev_iconst (3 : Int32) dL_law_1160 (by decide) ?_
  refine ev_iadd dL_law_1161 ?_
  refine ev_xld (j := 3) (N := L) (f := xs) dL_law_1162 rfl hi3 ?_
  refine er_VI [.int _, .int _, .int _] (bv_XL_sub L xs) lk_L_144 dL_law_1163 rfl rfl rfl rfl rfl (wm_X8_put _ _ _ _ _ hz2) ?_
  refine ev_icmp_eq 1388 dL_law_1166 (by decide) (fun _ => ?_) (fun c => absurd rfl c)
  exact hnext _ hI2
set_option maxRecDepth 100000 in
set_option maxHeartbeats 4000000 in
theorem law_c31 {I : bv_Mem → Prop} (hs : bv_S_move I) {L i : Nat} {xs : Nat → Int32} (hi1 : bv_in (nI i + 1) L = true) (hi2 : bv_in (nI i + 2) L = true) (hi3 : bv_in (nI i + 3) L = true) (hi4 : bv_in (nI i + 4) L = true) (hi5 : bv_in (nI i + 5) L = true) (hnext : ∀ mi, I mi → bv_Ev ML_law (bv_XL L xs) 2000 0 74 bv_QL 1388 [some (.ref (1000 + 3)), some (.ref 0), some (.ref 61), some (.int (nI i))] [] 74 (bv_mr mi) mi) {mi : bv_Mem} (hI : I mi) : bv_Ev ML_law (bv_XL L xs) 2000 0 74 bv_QL 1171 [some (.ref (1000 + 3)), some (.ref 0), some (.ref 61), some (.int (nI i))] [] 74 (bv_mr mi) mi := by
  obtain ⟨r, m1, m2, hz1, hz2, hI2⟩ := hs (xs (nI i + 1).toNatClampNeg) (xs (nI i + 2).toNatClampNeg) (xs (nI i + 3).toNatClampNeg) (xs (nI i + 4).toNatClampNeg) (xs (nI i + 5).toNatClampNeg) mi hI
  refine ev_aload_n dL_law_1171 rfl ?_
  refine ev_aload_n dL_law_1172 rfl ?_
  refine ev_iload_n dL_law_1173 rfl ?_
  refine ev_iconst (1 : Int32) dL_law_1174 (by decide) ?_
  refine ev_iadd dL_law_1175 ?_
  refine ev_xld (j := 3) (N := L) (f := xs) dL_law_1176 rfl hi1 ?_
  refine ev_aload_n dL_law_1177 rfl ?_
  refine ev_iload_n dL_law_1178 rfl ?_
  refine ev_iconst (2 : Int32) dL_law_1179 (by decide) ?_
  refine ev_iadd dL_law_1180 ?_
  refine ev_xld (j := 3) (N := L) (f := xs) dL_law_1181 rfl hi2 ?_
  refine ev_aload_n dL_law_1182 rfl ?_
  refine ev_iload_n dL_law_1183 rfl ?_
  refine ev_iconst (3 : Int32) dL_law_1184 (by decide) ?_
  refine ev_iadd dL_law_1185 ?_
  refine ev_xld (j := 3) (N := L) (f := xs) dL_law_1186 rfl hi3 ?_
  refine ev_aload_n dL_law_1187 rfl ?_
  refine ev_iload_n dL_law_1188 rfl ?_
  refine ev_iconst (4 : Int32) dL_law_1189 (by decide) ?_
  refine ev_iadd dL_law_1190 ?_
  refine ev_xld (j := 3) (N := L) (f := xs) dL_law_1191 rfl hi4 ?_
  refine ev_aload_n dL_law_1192 rfl ?_
  refine ev_iload_n dL_law_1193 rfl ?_
  refine ev_iconst (5 : Int32) dL_law_1194 (by decide) ?_
  refine ev_iadd dL_law_1195 ?_
  refine ev_xld (j := 3) (N := L) (f := xs) dL_law_1196 rfl hi5 ?_
  refine er_VI [.int _, .int _, .int _, .int _, .int _] (bv_XL_sub L xs) lk_L_145 dL_law_1197 rfl rfl rfl rfl rfl (wm_X7_move _ _ _ _ _ _ _ hz1) ?_
  refine ev_aload_n dL_law_1200 rfl ?_
  refine ev_aload_n dL_law_1201 rfl ?_
  refine ev_iload_n dL_law_1202 rfl ?_
  refine ev_iconst (1 : Int32) dL_law_1203 (by decide) ?_
  refine ev_iadd dL_law_1204 ?_
  refine ev_xld (j := 3) (N := L) (f := xs) dL_law_1205 rfl hi1 ?_
  refine ev_aload_n dL_law_1206 rfl ?_
  refine ev_iload_n dL_law_1207 rfl ?_
  refine ev_iconst (2 : Int32) dL_law_1208 (by decide) ?_
  refine ev_iadd dL_law_1209 ?_
  refine ev_xld (j := 3) (N := L) (f := xs) dL_law_1210 rfl hi2 ?_
  refine ev_aload_n dL_law_1211 rfl ?_
  refine ev_iload_n dL_law_1212 rfl ?_
  refine ev_iconst (3 : Int32) dL_law_1213 (by decide) ?_
  refine ev_iadd dL_law_1214 ?_
  refine ev_xld (j := 3) (N := L) (f := xs) dL_law_1215 rfl hi3 ?_
  refine ev_aload_n dL_law_1216 rfl ?_
  refine ev_iload_n dL_law_1217 rfl ?_
  refine ev_iconst (4 : Int32) dL_law_1218 (by decide) ?_
  refine ev_iadd dL_law_1219 ?_
  refine ev_xld (j := 3) (N := L) (f := xs) dL_law_1220 rfl hi4 ?_
  refine ev_aload_n dL_law_1221 rfl ?_
  refine ev_iload_n dL_law_1222 rfl ?_
  refine ev_iconst (5 : Int32) dL_law_1223 (by decide) ?_
  refine ev_iadd dL_law_1224 ?_
  refine ev_xld (j := 3) (N := L) (f := xs) dL_law_1225 rfl hi5 ?_
  refine er_VI [.int _, .int _, .int _, .int _, .int _] (bv_XL_sub L xs) lk_L_149 dL_law_1226 rfl rfl rfl rfl rfl (wm_X8_move _ _ _ _ _ _ _ hz2) ?_
  refine ev_icmp_eq 1388 dL_law_1229 (by decide) (fun _ => ?_) (fun c => absurd rfl c)
  exact hnext _ hI2
set_option maxRecDepth 100000 in
set_option maxHeartbeats 4000000 in
theorem law_c32 {I : bv_Mem → Prop} (hs : bv_S_heights I) {L i : Nat} {xs : Nat → Int32} (hi1 : bv_in (nI i + 1) L = true) (hi2 : bv_in (nI i + 2) L = true) (hi3 : bv_in (nI i + 3) L = true) (hi4 : bv_in (nI i + 4) L = true) (hi5 : bv_in (nI i + 5) L = true) (hnext : ∀ mi, I mi → bv_Ev ML_law (bv_XL L xs) 2000 0 74 bv_QL 1388 [some (.ref (1000 + 3)), some (.ref 0), some (.ref 61), some (.int (nI i))] [] 74 (bv_mr mi) mi) {mi : bv_Mem} (hI : I mi) : bv_Ev ML_law (bv_XL L xs) 2000 0 74 bv_QL 1234 [some (.ref (1000 + 3)), some (.ref 0), some (.ref 61), some (.int (nI i))] [] 74 (bv_mr mi) mi := by
  obtain ⟨r, m1, m2, hz1, hz2, hI2⟩ := hs (xs (nI i + 1).toNatClampNeg) mi hI
  refine ev_aload_n dL_law_1234 rfl ?_
  refine ev_aload_n dL_law_1235 rfl ?_
  refine ev_iload_n dL_law_1236 rfl ?_
  refine ev_iconst (1 : Int32) dL_law_1237 (by decide) ?_
  refine ev_iadd dL_law_1238 ?_
  refine ev_xld (j := 3) (N := L) (f := xs) dL_law_1239 rfl hi1 ?_
  refine er_VI [.int _] (bv_XL_sub L xs) lk_L_150 dL_law_1240 rfl rfl rfl rfl rfl (wm_X7_heights _ _ _ hz1) ?_
  refine ev_aload_n dL_law_1243 rfl ?_
  refine ev_aload_n dL_law_1244 rfl ?_
  refine ev_iload_n dL_law_1245 rfl ?_
  refine ev_iconst (1 : Int32) dL_law_1246 (by decide) ?_
  refine ev_iadd dL_law_1247 ?_
  refine ev_xld (j := 3) (N := L) (f := xs) dL_law_1248 rfl hi1 ?_
  refine er_VI [.int _] (bv_XL_sub L xs) lk_L_153 dL_law_1249 rfl rfl rfl rfl rfl (wm_X8_heights _ _ _ hz2) ?_
  refine ev_icmp_eq 1388 dL_law_1252 (by decide) (fun _ => ?_) (fun c => absurd rfl c)
  exact hnext _ hI2
set_option maxRecDepth 100000 in
set_option maxHeartbeats 4000000 in
theorem law_c33 {I : bv_Mem → Prop} (hs : bv_S_judge I) {L i : Nat} {xs : Nat → Int32} (hi1 : bv_in (nI i + 1) L = true) (hi2 : bv_in (nI i + 2) L = true) (hi3 : bv_in (nI i + 3) L = true) (hi4 : bv_in (nI i + 4) L = true) (hi5 : bv_in (nI i + 5) L = true) (hnext : ∀ mi, I mi → bv_Ev ML_law (bv_XL L xs) 2000 0 74 bv_QL 1388 [some (.ref (1000 + 3)), some (.ref 0), some (.ref 61), some (.int (nI i))] [] 74 (bv_mr mi) mi) {mi : bv_Mem} (hI : I mi) : bv_Ev ML_law (bv_XL L xs) 2000 0 74 bv_QL 1257 [some (.ref (1000 + 3)), some (.ref 0), some (.ref 61), some (.int (nI i))] [] 74 (bv_mr mi) mi := by
  obtain ⟨r, m1, m2, hz1, hz2, hI2⟩ := hs (xs (nI i + 1).toNatClampNeg) mi hI
  refine ev_aload_n dL_law_1257 rfl ?_
  refine ev_aload_n dL_law_1258 rfl ?_
  refine ev_iload_n dL_law_1259 rfl ?_
  refine ev_iconst (1 : Int32) dL_law_1260 (by decide) ?_
  refine ev_iadd dL_law_1261 ?_
  refine ev_xld (j := 3) (N := L) (f := xs) dL_law_1262 rfl hi1 ?_
  refine er_VI [.int _] (bv_XL_sub L xs) lk_L_154 dL_law_1263 rfl rfl rfl rfl rfl (wm_X7_judge _ _ _ hz1) ?_
  refine ev_aload_n dL_law_1266 rfl ?_
  refine ev_aload_n dL_law_1267 rfl ?_
  refine ev_iload_n dL_law_1268 rfl ?_
  refine ev_iconst (1 : Int32) dL_law_1269 (by decide) ?_
  refine ev_iadd dL_law_1270 ?_
  refine ev_xld (j := 3) (N := L) (f := xs) dL_law_1271 rfl hi1 ?_
  refine er_VI [.int _] (bv_XL_sub L xs) lk_L_157 dL_law_1272 rfl rfl rfl rfl rfl (wm_X8_judge _ _ _ hz2) ?_
  refine ev_icmp_eq 1388 dL_law_1275 (by decide) (fun _ => ?_) (fun c => absurd rfl c)
  exact hnext _ hI2
set_option maxRecDepth 100000 in
set_option maxHeartbeats 4000000 in
theorem law_c34 {I : bv_Mem → Prop} (hs : bv_S_image I) {L i : Nat} {xs : Nat → Int32} (hi1 : bv_in (nI i + 1) L = true) (hi2 : bv_in (nI i + 2) L = true) (hi3 : bv_in (nI i + 3) L = true) (hi4 : bv_in (nI i + 4) L = true) (hi5 : bv_in (nI i + 5) L = true) (hnext : ∀ mi, I mi → bv_Ev ML_law (bv_XL L xs) 2000 0 74 bv_QL 1388 [some (.ref (1000 + 3)), some (.ref 0), some (.ref 61), some (.int (nI i))] [] 74 (bv_mr mi) mi) {mi : bv_Mem} (hI : I mi) : bv_Ev ML_law (bv_XL L xs) 2000 0 74 bv_QL 1280 [some (.ref (1000 + 3)), some (.ref 0), some (.ref 61), some (.int (nI i))] [] 74 (bv_mr mi) mi := by
  obtain ⟨r, m1, m2, hz1, hz2, hI2⟩ := hs  mi hI
  refine ev_aload_n dL_law_1280 rfl ?_
  refine er_VI [] (bv_XL_sub L xs) lk_L_158 dL_law_1281 rfl rfl rfl rfl rfl (wm_X7_image  _ _ hz1) ?_
  refine ev_aload_n dL_law_1284 rfl ?_
  refine er_VI [] (bv_XL_sub L xs) lk_L_161 dL_law_1285 rfl rfl rfl rfl rfl (wm_X8_image  _ _ hz2) ?_
  refine ev_icmp_eq 1388 dL_law_1288 (by decide) (fun _ => ?_) (fun c => absurd rfl c)
  exact hnext _ hI2
set_option maxRecDepth 100000 in
set_option maxHeartbeats 4000000 in
theorem law_c35 {I : bv_Mem → Prop} (hs : bv_S_restore I) {L i : Nat} {xs : Nat → Int32} (hi1 : bv_in (nI i + 1) L = true) (hi2 : bv_in (nI i + 2) L = true) (hi3 : bv_in (nI i + 3) L = true) (hi4 : bv_in (nI i + 4) L = true) (hi5 : bv_in (nI i + 5) L = true) (hnext : ∀ mi, I mi → bv_Ev ML_law (bv_XL L xs) 2000 0 74 bv_QL 1388 [some (.ref (1000 + 3)), some (.ref 0), some (.ref 61), some (.int (nI i))] [] 74 (bv_mr mi) mi) {mi : bv_Mem} (hI : I mi) : bv_Ev ML_law (bv_XL L xs) 2000 0 74 bv_QL 1293 [some (.ref (1000 + 3)), some (.ref 0), some (.ref 61), some (.int (nI i))] [] 74 (bv_mr mi) mi := by
  obtain ⟨r, m1, m2, hz1, hz2, hI2⟩ := hs  mi hI
  refine ev_aload_n dL_law_1293 rfl ?_
  refine er_VI [] (bv_XL_sub L xs) lk_L_162 dL_law_1294 rfl rfl rfl rfl rfl (wm_X7_restore  _ _ hz1) ?_
  refine ev_aload_n dL_law_1297 rfl ?_
  refine er_VI [] (bv_XL_sub L xs) lk_L_165 dL_law_1298 rfl rfl rfl rfl rfl (wm_X8_restore  _ _ hz2) ?_
  refine ev_icmp_eq 1388 dL_law_1301 (by decide) (fun _ => ?_) (fun c => absurd rfl c)
  exact hnext _ hI2
set_option maxRecDepth 100000 in
set_option maxHeartbeats 4000000 in
theorem law_c36 {I : bv_Mem → Prop} (hs : bv_S_tell I) {L i : Nat} {xs : Nat → Int32} (hi1 : bv_in (nI i + 1) L = true) (hi2 : bv_in (nI i + 2) L = true) (hi3 : bv_in (nI i + 3) L = true) (hi4 : bv_in (nI i + 4) L = true) (hi5 : bv_in (nI i + 5) L = true) (hnext : ∀ mi, I mi → bv_Ev ML_law (bv_XL L xs) 2000 0 74 bv_QL 1388 [some (.ref (1000 + 3)), some (.ref 0), some (.ref 61), some (.int (nI i))] [] 74 (bv_mr mi) mi) {mi : bv_Mem} (hI : I mi) : bv_Ev ML_law (bv_XL L xs) 2000 0 74 bv_QL 1306 [some (.ref (1000 + 3)), some (.ref 0), some (.ref 61), some (.int (nI i))] [] 74 (bv_mr mi) mi := by
  obtain ⟨r, m1, m2, hz1, hz2, hI2⟩ := hs (xs (nI i + 1).toNatClampNeg) mi hI
  refine ev_aload_n dL_law_1306 rfl ?_
  refine ev_aload_n dL_law_1307 rfl ?_
  refine ev_iload_n dL_law_1308 rfl ?_
  refine ev_iconst (1 : Int32) dL_law_1309 (by decide) ?_
  refine ev_iadd dL_law_1310 ?_
  refine ev_xld (j := 3) (N := L) (f := xs) dL_law_1311 rfl hi1 ?_
  refine er_VI [.int _] (bv_XL_sub L xs) lk_L_166 dL_law_1312 rfl rfl rfl rfl rfl (wm_X7_tell _ _ _ hz1) ?_
  refine ev_aload_n dL_law_1315 rfl ?_
  refine ev_aload_n dL_law_1316 rfl ?_
  refine ev_iload_n dL_law_1317 rfl ?_
  refine ev_iconst (1 : Int32) dL_law_1318 (by decide) ?_
  refine ev_iadd dL_law_1319 ?_
  refine ev_xld (j := 3) (N := L) (f := xs) dL_law_1320 rfl hi1 ?_
  refine er_VI [.int _] (bv_XL_sub L xs) lk_L_169 dL_law_1321 rfl rfl rfl rfl rfl (wm_X8_tell _ _ _ hz2) ?_
  refine ev_icmp_eq 1388 dL_law_1324 (by decide) (fun _ => ?_) (fun c => absurd rfl c)
  exact hnext _ hI2
set_option maxRecDepth 100000 in
set_option maxHeartbeats 4000000 in
theorem law_c37 {I : bv_Mem → Prop} (hs : bv_S_check I) {L i : Nat} {xs : Nat → Int32} (hi1 : bv_in (nI i + 1) L = true) (hi2 : bv_in (nI i + 2) L = true) (hi3 : bv_in (nI i + 3) L = true) (hi4 : bv_in (nI i + 4) L = true) (hi5 : bv_in (nI i + 5) L = true) (hnext : ∀ mi, I mi → bv_Ev ML_law (bv_XL L xs) 2000 0 74 bv_QL 1388 [some (.ref (1000 + 3)), some (.ref 0), some (.ref 61), some (.int (nI i))] [] 74 (bv_mr mi) mi) {mi : bv_Mem} (hI : I mi) : bv_Ev ML_law (bv_XL L xs) 2000 0 74 bv_QL 1329 [some (.ref (1000 + 3)), some (.ref 0), some (.ref 61), some (.int (nI i))] [] 74 (bv_mr mi) mi := by
  obtain ⟨r, m1, m2, hz1, hz2, hI2⟩ := hs  mi hI
  refine ev_aload_n dL_law_1329 rfl ?_
  refine er_VI [] (bv_XL_sub L xs) lk_L_170 dL_law_1330 rfl rfl rfl rfl rfl (wm_X7_check  _ _ hz1) ?_
  refine ev_aload_n dL_law_1333 rfl ?_
  refine er_VI [] (bv_XL_sub L xs) lk_L_173 dL_law_1334 rfl rfl rfl rfl rfl (wm_X8_check  _ _ hz2) ?_
  refine ev_icmp_eq 1388 dL_law_1337 (by decide) (fun _ => ?_) (fun c => absurd rfl c)
  exact hnext _ hI2
set_option maxRecDepth 100000 in
set_option maxHeartbeats 4000000 in
theorem law_c38 {I : bv_Mem → Prop} (hs : bv_S_count I) {L i : Nat} {xs : Nat → Int32} (hi1 : bv_in (nI i + 1) L = true) (hi2 : bv_in (nI i + 2) L = true) (hi3 : bv_in (nI i + 3) L = true) (hi4 : bv_in (nI i + 4) L = true) (hi5 : bv_in (nI i + 5) L = true) (hnext : ∀ mi, I mi → bv_Ev ML_law (bv_XL L xs) 2000 0 74 bv_QL 1388 [some (.ref (1000 + 3)), some (.ref 0), some (.ref 61), some (.int (nI i))] [] 74 (bv_mr mi) mi) {mi : bv_Mem} (hI : I mi) : bv_Ev ML_law (bv_XL L xs) 2000 0 74 bv_QL 1342 [some (.ref (1000 + 3)), some (.ref 0), some (.ref 61), some (.int (nI i))] [] 74 (bv_mr mi) mi := by
  obtain ⟨r, m1, m2, hz1, hz2, hI2⟩ := hs (xs (nI i + 1).toNatClampNeg) mi hI
  refine ev_aload_n dL_law_1342 rfl ?_
  refine ev_aload_n dL_law_1343 rfl ?_
  refine ev_iload_n dL_law_1344 rfl ?_
  refine ev_iconst (1 : Int32) dL_law_1345 (by decide) ?_
  refine ev_iadd dL_law_1346 ?_
  refine ev_xld (j := 3) (N := L) (f := xs) dL_law_1347 rfl hi1 ?_
  refine er_VI [.int _] (bv_XL_sub L xs) lk_L_174 dL_law_1348 rfl rfl rfl rfl rfl (wm_X7_count _ _ _ hz1) ?_
  refine ev_aload_n dL_law_1351 rfl ?_
  refine ev_aload_n dL_law_1352 rfl ?_
  refine ev_iload_n dL_law_1353 rfl ?_
  refine ev_iconst (1 : Int32) dL_law_1354 (by decide) ?_
  refine ev_iadd dL_law_1355 ?_
  refine ev_xld (j := 3) (N := L) (f := xs) dL_law_1356 rfl hi1 ?_
  refine er_VI [.int _] (bv_XL_sub L xs) lk_L_177 dL_law_1357 rfl rfl rfl rfl rfl (wm_X8_count _ _ _ hz2) ?_
  refine ev_icmp_eq 1388 dL_law_1360 (by decide) (fun _ => ?_) (fun c => absurd rfl c)
  exact hnext _ hI2
set_option maxRecDepth 100000 in
set_option maxHeartbeats 4000000 in
theorem law_c39 {I : bv_Mem → Prop} (hs : bv_S_told I) {L i : Nat} {xs : Nat → Int32} (hi1 : bv_in (nI i + 1) L = true) (hi2 : bv_in (nI i + 2) L = true) (hi3 : bv_in (nI i + 3) L = true) (hi4 : bv_in (nI i + 4) L = true) (hi5 : bv_in (nI i + 5) L = true) (hnext : ∀ mi, I mi → bv_Ev ML_law (bv_XL L xs) 2000 0 74 bv_QL 1388 [some (.ref (1000 + 3)), some (.ref 0), some (.ref 61), some (.int (nI i))] [] 74 (bv_mr mi) mi) {mi : bv_Mem} (hI : I mi) : bv_Ev ML_law (bv_XL L xs) 2000 0 74 bv_QL 1365 [some (.ref (1000 + 3)), some (.ref 0), some (.ref 61), some (.int (nI i))] [] 74 (bv_mr mi) mi := by
  obtain ⟨r, m1, m2, hz1, hz2, hI2⟩ := hs (xs (nI i + 1).toNatClampNeg) mi hI
  refine ev_aload_n dL_law_1365 rfl ?_
  refine ev_aload_n dL_law_1366 rfl ?_
  refine ev_iload_n dL_law_1367 rfl ?_
  refine ev_iconst (1 : Int32) dL_law_1368 (by decide) ?_
  refine ev_iadd dL_law_1369 ?_
  refine ev_xld (j := 3) (N := L) (f := xs) dL_law_1370 rfl hi1 ?_
  refine er_VI [.int _] (bv_XL_sub L xs) lk_L_178 dL_law_1371 rfl rfl rfl rfl rfl (wm_X7_told _ _ _ hz1) ?_
  refine ev_aload_n dL_law_1374 rfl ?_
  refine ev_aload_n dL_law_1375 rfl ?_
  refine ev_iload_n dL_law_1376 rfl ?_
  refine ev_iconst (1 : Int32) dL_law_1377 (by decide) ?_
  refine ev_iadd dL_law_1378 ?_
  refine ev_xld (j := 3) (N := L) (f := xs) dL_law_1379 rfl hi1 ?_
  refine er_VI [.int _] (bv_XL_sub L xs) lk_L_181 dL_law_1380 rfl rfl rfl rfl rfl (wm_X8_told _ _ _ hz2) ?_
  refine ev_icmp_eq 1388 dL_law_1383 (by decide) (fun _ => ?_) (fun c => absurd rfl c)
  exact hnext _ hI2
set_option maxRecDepth 100000 in
set_option maxHeartbeats 4000000 in
theorem law_loop {I : bv_Mem → Prop} (hs_land : bv_S_land I) (hs_ofPlace : bv_S_ofPlace I) (hs_village : bv_S_village I) (hs_moves : bv_S_moves I) (hs_at : bv_S_at I) (hs_fill : bv_S_fill I) (hs_ofBottle : bv_S_ofBottle I) (hs_become : bv_S_become I) (hs_as : bv_S_as I) (hs_open : bv_S_open I) (hs_feed : bv_S_feed I) (hs_text : bv_S_text I) (hs_law : bv_S_law I) (hs_days : bv_S_days I) (hs_loose : bv_S_loose I) (hs_view : bv_S_view I) (hs_again : bv_S_again I) (hs_best : bv_S_best I) (hs_tower : bv_S_tower I) (hs_mutual : bv_S_mutual I) (hs_unseen : bv_S_unseen I) (hs_cover : bv_S_cover I) (hs_keeps : bv_S_keeps I) (hs_blend : bv_S_blend I) (hs_thief : bv_S_thief I) (hs_both : bv_S_both I) (hs_seed : bv_S_seed I) (hs_voice : bv_S_voice I) (hs_trace : bv_S_trace I) (hs_sheet : bv_S_sheet I) (hs_put : bv_S_put I) (hs_move : bv_S_move I) (hs_heights : bv_S_heights I) (hs_judge : bv_S_judge I) (hs_image : bv_S_image I) (hs_restore : bv_S_restore I) (hs_tell : bv_S_tell I) (hs_check : bv_S_check I) (hs_count : bv_S_count I) (hs_told : bv_S_told I) {L : Nat} {xs : Nat → Int32} (hL : L ≤ 3072) : ∀ (fu i : Nat) (mi : bv_Mem), i ≤ L → L < i + 6 * fu → I mi → bv_Ev ML_law (bv_XL L xs) 2000 0 74 bv_QL 18 [some (.ref (1000 + 3)), some (.ref 0), some (.ref 61), some (.int (nI i))] [] 74 (bv_mr mi) mi := by
  intro fu
  induction fu with
  | zero => intro i mi h1 h2; exact absurd h2 (by omega)
  | succ fu ih =>
    intro i mi h1 h2 hI
    refine ev_iload_n dL_law_18 rfl ?_
    refine ev_aload_n dL_law_19 rfl ?_
    refine ev_xlen (j := 3) (N := L) (f := xs) (nI L) dL_law_20 rfl rfl ?_
    refine ev_bipush (6 : Int32) dL_law_21 (by decide) ?_
    refine ev_isub dL_law_23 ?_
    refine ev_icmp_gt 1394 dL_law_24 (by decide) (fun c => ?_) (fun c => ?_)
    · refine ev_iconst (1 : Int32) dL_law_1394 (by decide) ?_
      exact ev_zret rfl (Or.inr rfl) dL_law_1395 rfl
    · have h6 : i + 6 ≤ L := by
        have e : nI L - 6 = nI L - nI 6 := rfl
        rw [e, Int32.lt_iff_toInt_lt, pk_sub_toInt (by omega) (by omega), nI_toInt (by omega)] at c
        omega
      have hi0 : bv_in (nI i) L = true := by
        have h9 := bv_inn (i := i) (k := 0) (L := L) (by omega) hL
        rwa [nI_add] at h9
      have hi1 : bv_in (nI i + 1) L = true := bv_inn (k := 1) (by omega) hL
      have hi2 : bv_in (nI i + 2) L = true := bv_inn (k := 2) (by omega) hL
      have hi3 : bv_in (nI i + 3) L = true := bv_inn (k := 3) (by omega) hL
      have hi4 : bv_in (nI i + 4) L = true := bv_inn (k := 4) (by omega) hL
      have hi5 : bv_in (nI i + 5) L = true := bv_inn (k := 5) (by omega) hL
      have hnext : ∀ mi, I mi → bv_Ev ML_law (bv_XL L xs) 2000 0 74 bv_QL 1388 [some (.ref (1000 + 3)), some (.ref 0), some (.ref 61), some (.int (nI i))] [] 74 (bv_mr mi) mi := by
        intro mi hI
        refine ev_iinc (nI (i + 6)) dL_law_1388 rfl ?_ rfl rfl ?_
        · exact (nI_add i 6)
        refine ev_goto 18 dL_law_1391 (by decide) ?_
        exact ih (i + 6) mi h6 (by omega) hI
      refine ev_aload_n dL_law_27 rfl ?_
      refine ev_iload_n dL_law_28 rfl ?_
      refine ev_xld (j := 3) (N := L) (f := xs) dL_law_29 rfl hi0 ?_
      refine ev_bipush (63 : Int32) dL_law_30 (by decide) ?_
      refine ev_iand dL_law_32 ?_
      generalize xs (nI i).toNatClampNeg &&& 63 = x
      by_cases c0 : x = (0 : Int32)
      · refine ev_tableIn (175) 208 dL_law_33 (by rw [c0]; decide) (by rw [c0]; decide) (by rw [c0]; decide) (by decide) ?_
        exact law_c0 hs_land hi1 hi2 hi3 hi4 hi5 hnext hI
      by_cases c1 : x = (1 : Int32)
      · refine ev_tableIn (218) 251 dL_law_33 (by rw [c1]; decide) (by rw [c1]; decide) (by rw [c1]; decide) (by decide) ?_
        exact law_c1 hs_ofPlace hi1 hi2 hi3 hi4 hi5 hnext hI
      by_cases c2 : x = (2 : Int32)
      · refine ev_tableIn (251) 284 dL_law_33 (by rw [c2]; decide) (by rw [c2]; decide) (by rw [c2]; decide) (by decide) ?_
        exact law_c2 hs_village hi1 hi2 hi3 hi4 hi5 hnext hI
      by_cases c3 : x = (3 : Int32)
      · refine ev_tableIn (274) 307 dL_law_33 (by rw [c3]; decide) (by rw [c3]; decide) (by rw [c3]; decide) (by decide) ?_
        exact law_c3 hs_moves hi1 hi2 hi3 hi4 hi5 hnext hI
      by_cases c4 : x = (4 : Int32)
      · refine ev_tableIn (307) 340 dL_law_33 (by rw [c4]; decide) (by rw [c4]; decide) (by rw [c4]; decide) (by decide) ?_
        exact law_c4 hs_at hi1 hi2 hi3 hi4 hi5 hnext hI
      by_cases c5 : x = (5 : Int32)
      · refine ev_tableIn (330) 363 dL_law_33 (by rw [c5]; decide) (by rw [c5]; decide) (by rw [c5]; decide) (by decide) ?_
        exact law_c5 hs_fill hi1 hi2 hi3 hi4 hi5 hnext hI
      by_cases c6 : x = (6 : Int32)
      · refine ev_tableIn (383) 416 dL_law_33 (by rw [c6]; decide) (by rw [c6]; decide) (by rw [c6]; decide) (by decide) ?_
        exact law_c6 hs_ofBottle hi1 hi2 hi3 hi4 hi5 hnext hI
      by_cases c7 : x = (7 : Int32)
      · refine ev_tableIn (416) 449 dL_law_33 (by rw [c7]; decide) (by rw [c7]; decide) (by rw [c7]; decide) (by decide) ?_
        exact law_c7 hs_become hi1 hi2 hi3 hi4 hi5 hnext hI
      by_cases c8 : x = (8 : Int32)
      · refine ev_tableIn (449) 482 dL_law_33 (by rw [c8]; decide) (by rw [c8]; decide) (by rw [c8]; decide) (by decide) ?_
        exact law_c8 hs_as hi1 hi2 hi3 hi4 hi5 hnext hI
      by_cases c9 : x = (9 : Int32)
      · refine ev_tableIn (482) 515 dL_law_33 (by rw [c9]; decide) (by rw [c9]; decide) (by rw [c9]; decide) (by decide) ?_
        exact law_c9 hs_open hi1 hi2 hi3 hi4 hi5 hnext hI
      by_cases c10 : x = (10 : Int32)
      · refine ev_tableIn (505) 538 dL_law_33 (by rw [c10]; decide) (by rw [c10]; decide) (by rw [c10]; decide) (by decide) ?_
        exact law_c10 hs_feed hi1 hi2 hi3 hi4 hi5 hnext hI
      by_cases c11 : x = (11 : Int32)
      · refine ev_tableIn (568) 601 dL_law_33 (by rw [c11]; decide) (by rw [c11]; decide) (by rw [c11]; decide) (by decide) ?_
        exact law_c11 hs_text hi1 hi2 hi3 hi4 hi5 hnext hI
      by_cases c12 : x = (12 : Int32)
      · refine ev_tableIn (591) 624 dL_law_33 (by rw [c12]; decide) (by rw [c12]; decide) (by rw [c12]; decide) (by decide) ?_
        exact law_c12 hs_law hi1 hi2 hi3 hi4 hi5 hnext hI
      by_cases c13 : x = (13 : Int32)
      · refine ev_tableIn (644) 677 dL_law_33 (by rw [c13]; decide) (by rw [c13]; decide) (by rw [c13]; decide) (by decide) ?_
        exact law_c13 hs_days hi1 hi2 hi3 hi4 hi5 hnext hI
      by_cases c14 : x = (14 : Int32)
      · refine ev_tableIn (667) 700 dL_law_33 (by rw [c14]; decide) (by rw [c14]; decide) (by rw [c14]; decide) (by decide) ?_
        exact law_c14 hs_loose hi1 hi2 hi3 hi4 hi5 hnext hI
      by_cases c15 : x = (15 : Int32)
      · refine ev_tableIn (690) 723 dL_law_33 (by rw [c15]; decide) (by rw [c15]; decide) (by rw [c15]; decide) (by decide) ?_
        exact law_c15 hs_view hi1 hi2 hi3 hi4 hi5 hnext hI
      by_cases c16 : x = (16 : Int32)
      · refine ev_tableIn (733) 766 dL_law_33 (by rw [c16]; decide) (by rw [c16]; decide) (by rw [c16]; decide) (by decide) ?_
        exact law_c16 hs_again hi1 hi2 hi3 hi4 hi5 hnext hI
      by_cases c17 : x = (17 : Int32)
      · refine ev_tableIn (766) 799 dL_law_33 (by rw [c17]; decide) (by rw [c17]; decide) (by rw [c17]; decide) (by decide) ?_
        exact law_c17 hs_best hi1 hi2 hi3 hi4 hi5 hnext hI
      by_cases c18 : x = (18 : Int32)
      · refine ev_tableIn (789) 822 dL_law_33 (by rw [c18]; decide) (by rw [c18]; decide) (by rw [c18]; decide) (by decide) ?_
        exact law_c18 hs_tower hi1 hi2 hi3 hi4 hi5 hnext hI
      by_cases c19 : x = (19 : Int32)
      · refine ev_tableIn (822) 855 dL_law_33 (by rw [c19]; decide) (by rw [c19]; decide) (by rw [c19]; decide) (by decide) ?_
        exact law_c19 hs_mutual hi1 hi2 hi3 hi4 hi5 hnext hI
      by_cases c20 : x = (20 : Int32)
      · refine ev_tableIn (835) 868 dL_law_33 (by rw [c20]; decide) (by rw [c20]; decide) (by rw [c20]; decide) (by decide) ?_
        exact law_c20 hs_unseen hi1 hi2 hi3 hi4 hi5 hnext hI
      by_cases c21 : x = (21 : Int32)
      · refine ev_tableIn (848) 881 dL_law_33 (by rw [c21]; decide) (by rw [c21]; decide) (by rw [c21]; decide) (by decide) ?_
        exact law_c21 hs_cover hi1 hi2 hi3 hi4 hi5 hnext hI
      by_cases c22 : x = (22 : Int32)
      · refine ev_tableIn (871) 904 dL_law_33 (by rw [c22]; decide) (by rw [c22]; decide) (by rw [c22]; decide) (by decide) ?_
        exact law_c22 hs_keeps hi1 hi2 hi3 hi4 hi5 hnext hI
      by_cases c23 : x = (23 : Int32)
      · refine ev_tableIn (894) 927 dL_law_33 (by rw [c23]; decide) (by rw [c23]; decide) (by rw [c23]; decide) (by decide) ?_
        exact law_c23 hs_blend hi1 hi2 hi3 hi4 hi5 hnext hI
      by_cases c24 : x = (24 : Int32)
      · refine ev_tableIn (927) 960 dL_law_33 (by rw [c24]; decide) (by rw [c24]; decide) (by rw [c24]; decide) (by decide) ?_
        exact law_c24 hs_thief hi1 hi2 hi3 hi4 hi5 hnext hI
      by_cases c25 : x = (25 : Int32)
      · refine ev_tableIn (950) 983 dL_law_33 (by rw [c25]; decide) (by rw [c25]; decide) (by rw [c25]; decide) (by decide) ?_
        exact law_c25 hs_both hi1 hi2 hi3 hi4 hi5 hnext hI
      by_cases c26 : x = (26 : Int32)
      · refine ev_tableIn (963) 996 dL_law_33 (by rw [c26]; decide) (by rw [c26]; decide) (by rw [c26]; decide) (by decide) ?_
        exact law_c26 hs_seed hi1 hi2 hi3 hi4 hi5 hnext hI
      by_cases c27 : x = (27 : Int32)
      · refine ev_tableIn (986) 1019 dL_law_33 (by rw [c27]; decide) (by rw [c27]; decide) (by rw [c27]; decide) (by decide) ?_
        exact law_c27 hs_voice hi1 hi2 hi3 hi4 hi5 hnext hI
      by_cases c28 : x = (28 : Int32)
      · refine ev_tableIn (1029) 1062 dL_law_33 (by rw [c28]; decide) (by rw [c28]; decide) (by rw [c28]; decide) (by decide) ?_
        exact law_c28 hs_trace hi1 hi2 hi3 hi4 hi5 hnext hI
      by_cases c29 : x = (29 : Int32)
      · refine ev_tableIn (1052) 1085 dL_law_33 (by rw [c29]; decide) (by rw [c29]; decide) (by rw [c29]; decide) (by decide) ?_
        exact law_c29 hs_sheet hi1 hi2 hi3 hi4 hi5 hnext hI
      by_cases c30 : x = (30 : Int32)
      · refine ev_tableIn (1095) 1128 dL_law_33 (by rw [c30]; decide) (by rw [c30]; decide) (by rw [c30]; decide) (by decide) ?_
        exact law_c30 hs_put hi1 hi2 hi3 hi4 hi5 hnext hI
      by_cases c31 : x = (31 : Int32)
      · refine ev_tableIn (1138) 1171 dL_law_33 (by rw [c31]; decide) (by rw [c31]; decide) (by rw [c31]; decide) (by decide) ?_
        exact law_c31 hs_move hi1 hi2 hi3 hi4 hi5 hnext hI
      by_cases c32 : x = (32 : Int32)
      · refine ev_tableIn (1201) 1234 dL_law_33 (by rw [c32]; decide) (by rw [c32]; decide) (by rw [c32]; decide) (by decide) ?_
        exact law_c32 hs_heights hi1 hi2 hi3 hi4 hi5 hnext hI
      by_cases c33 : x = (33 : Int32)
      · refine ev_tableIn (1224) 1257 dL_law_33 (by rw [c33]; decide) (by rw [c33]; decide) (by rw [c33]; decide) (by decide) ?_
        exact law_c33 hs_judge hi1 hi2 hi3 hi4 hi5 hnext hI
      by_cases c34 : x = (34 : Int32)
      · refine ev_tableIn (1247) 1280 dL_law_33 (by rw [c34]; decide) (by rw [c34]; decide) (by rw [c34]; decide) (by decide) ?_
        exact law_c34 hs_image hi1 hi2 hi3 hi4 hi5 hnext hI
      by_cases c35 : x = (35 : Int32)
      · refine ev_tableIn (1260) 1293 dL_law_33 (by rw [c35]; decide) (by rw [c35]; decide) (by rw [c35]; decide) (by decide) ?_
        exact law_c35 hs_restore hi1 hi2 hi3 hi4 hi5 hnext hI
      by_cases c36 : x = (36 : Int32)
      · refine ev_tableIn (1273) 1306 dL_law_33 (by rw [c36]; decide) (by rw [c36]; decide) (by rw [c36]; decide) (by decide) ?_
        exact law_c36 hs_tell hi1 hi2 hi3 hi4 hi5 hnext hI
      by_cases c37 : x = (37 : Int32)
      · refine ev_tableIn (1296) 1329 dL_law_33 (by rw [c37]; decide) (by rw [c37]; decide) (by rw [c37]; decide) (by decide) ?_
        exact law_c37 hs_check hi1 hi2 hi3 hi4 hi5 hnext hI
      by_cases c38 : x = (38 : Int32)
      · refine ev_tableIn (1309) 1342 dL_law_33 (by rw [c38]; decide) (by rw [c38]; decide) (by rw [c38]; decide) (by decide) ?_
        exact law_c38 hs_count hi1 hi2 hi3 hi4 hi5 hnext hI
      by_cases c39 : x = (39 : Int32)
      · refine ev_tableIn (1332) 1365 dL_law_33 (by rw [c39]; decide) (by rw [c39]; decide) (by rw [c39]; decide) (by decide) ?_
        exact law_c39 hs_told hi1 hi2 hi3 hi4 hi5 hnext hI
      refine ev_tableOut 1388 dL_law_33 (bv_sw 40 (by decide) (fun j hj => by match j, hj with | 0, _ => exact c0 | 1, _ => exact c1 | 2, _ => exact c2 | 3, _ => exact c3 | 4, _ => exact c4 | 5, _ => exact c5 | 6, _ => exact c6 | 7, _ => exact c7 | 8, _ => exact c8 | 9, _ => exact c9 | 10, _ => exact c10 | 11, _ => exact c11 | 12, _ => exact c12 | 13, _ => exact c13 | 14, _ => exact c14 | 15, _ => exact c15 | 16, _ => exact c16 | 17, _ => exact c17 | 18, _ => exact c18 | 19, _ => exact c19 | 20, _ => exact c20 | 21, _ => exact c21 | 22, _ => exact c22 | 23, _ => exact c23 | 24, _ => exact c24 | 25, _ => exact c25 | 26, _ => exact c26 | 27, _ => exact c27 | 28, _ => exact c28 | 29, _ => exact c29 | 30, _ => exact c30 | 31, _ => exact c31 | 32, _ => exact c32 | 33, _ => exact c33 | 34, _ => exact c34 | 35, _ => exact c35 | 36, _ => exact c36 | 37, _ => exact c37 | 38, _ => exact c38 | 39, _ => exact c39 | j + 40, hj => exact absurd hj (by omega))) (by decide) ?_
      exact hnext mi hI
theorem bv_ups_none (l : List (Nat × Nat × Nat)) (h : l.all (fun u => Nat.blt u.2.1 20) = true) : ∀ (mr : bv_Rfs) (a j : Nat), 20 ≤ j → l.foldl (fun mr u => bv_upr mr u.1 u.2.1 (some u.2.2)) mr a j = mr a j := by
  induction l with
  | nil => intro mr a j _; rfl
  | cons u t ih =>
    intro mr a j hj
    simp only [List.all_cons, Bool.and_eq_true] at h
    have h1 := Nat.blt_eq.mp h.1
    rw [List.foldl_cons, ih h.2 _ a j hj]
    unfold bv_upr
    rw [if_neg (by omega)]
def bv_ul : List (Nat × Nat × Nat) := [(2, 0, 3), (2, 1, 4), (1, 0, 2), (1, 1, 5), (1, 3, 6), (7, 0, 8), (1, 7, 7), (9, 0, 10), (1, 8, 9), (11, 0, 12), (1, 9, 11), (1, 10, 13), (6, 0, 14), (6, 1, 15), (6, 2, 16), (6, 3, 17), (6, 4, 18), (6, 5, 19), (6, 6, 20), (6, 7, 21), (0, 0, 1), (23, 0, 24), (23, 1, 25), (22, 0, 23), (22, 1, 26), (22, 3, 27), (28, 0, 29), (22, 7, 28), (30, 0, 31), (22, 8, 30), (32, 0, 33), (22, 9, 32), (22, 10, 34), (27, 0, 35), (27, 1, 36), (27, 2, 37), (27, 3, 38), (27, 4, 39), (27, 5, 40), (27, 6, 41), (27, 7, 42), (0, 1, 22), (44, 0, 45), (43, 0, 44), (43, 2, 46), (0, 3, 43), (47, 0, 48), (0, 4, 47), (0, 5, 49), (0, 6, 50), (0, 7, 51), (0, 8, 52), (53, 2, 54), (49, 0, 53), (55, 2, 56), (49, 1, 55), (57, 2, 58), (49, 2, 57), (59, 2, 60), (49, 3, 59), (61, 0, 62), (61, 1, 63), (61, 2, 64), (61, 4, 65), (61, 5, 66), (61, 6, 67), (61, 7, 68), (61, 8, 69), (61, 14, 70), (61, 16, 71), (61, 17, 72), (61, 18, 73)]
theorem bv_ul_eq : cr_68 = bv_ul.foldl (fun mr u => bv_upr mr u.1 u.2.1 (some u.2.2)) (fun _ _ => none) := rfl
theorem bv_RF_none {a j : Nat} (hj : 20 ≤ j) : bv_RF a j = none := by
  unfold bv_RF
  have h : bv_RT.all (fun r => Nat.ble r.length 20) = true := by decide
  have h2 : (bv_RT.getD a []).length ≤ 20 := by
    rw [List.getD_eq_getElem?_getD]
    cases hx : bv_RT[a]? with
    | none => exact Nat.zero_le _
    | some r => exact Nat.le_of_ble_eq_true (List.all_eq_true.mp h r (List.mem_of_getElem? hx))
  rw [List.getD_eq_getElem?_getD, List.getElem?_eq_none (by omega)]
  rfl
theorem bv_cr_eq {mi : bv_Mem} (h : mi 43 0 = 44) {a : Nat} (ha : a < 74) (j : Nat) : cr_68 a j = bv_mr mi a j := by
  have e : bv_mr mi a j = match Nat.beq a 43 && Nat.beq j 0 with
      | true => some 44
      | false => bv_RF a j := by
    unfold bv_mr
    rw [h]
    rfl
  rcases Nat.lt_or_ge j 20 with hj | hj
  · rw [e]
    have h2 : ∀ a, a < 74 → ∀ j, j < 20 → cr_68 a j = match Nat.beq a 43 && Nat.beq j 0 with
      | true => some 44
      | false => bv_RF a j := by decide +kernel
    exact h2 a ha j hj
  · rw [e, bv_ul_eq, bv_ups_none _ (by decide) _ _ _ hj]
    have hb : (Nat.beq a 43 && Nat.beq j 0) = false := by
      cases hx : (Nat.beq a 43 && Nat.beq j 0) with
      | false => rfl
      | true =>
        rw [Bool.and_eq_true] at hx
        have := Nat.eq_of_beq_eq_true hx.2
        omega
    rw [hb, bv_RF_none hj]
theorem bv_mb_mr {mi : bv_Mem} (h : mi 43 0 = 44) : bv_mb 74 (bv_mr mi) := by
  intro a j q hq
  unfold bv_mr at hq
  cases hb : (Nat.beq a 43 && Nat.beq j 0) with
  | true =>
    rw [hb, h] at hq
    have : (44 : Int32).toNatClampNeg = 44 := by decide
    simp only [this] at hq
    cases hq
    decide
  | false =>
    rw [hb] at hq
    have hall : bv_RT.all (fun r => r.all (fun o => match o with
      | some q => Nat.blt q 74
      | none => true)) = true := by decide
    unfold bv_RF at hq
    simp only [List.getD_eq_getElem?_getD] at hq
    cases hx : bv_RT[a]? with
    | none => rw [hx] at hq; simp at hq
    | some r =>
      rw [hx] at hq
      simp only [Option.getD_some] at hq
      cases hy : r[j]? with
      | none => rw [hy] at hq; simp at hq
      | some o =>
        rw [hy] at hq
        simp only [Option.getD_some] at hq
        subst hq
        have h1 := List.all_eq_true.mp (List.all_eq_true.mp hall r (List.mem_of_getElem? hx)) (some q) (List.mem_of_getElem? hy)
        exact Nat.blt_eq.mp h1
/-- when all cells are made -/
theorem bv_settle {M : bv_M} {X : bv_Xt} {d n0 n1 : Nat} {Q : Option Value → bv_Rfs → bv_Mem → Prop} {pc : Nat} {L : List (Option Value)} {st : List Value} (k : bv_Ev M X d n0 n1 Q pc L st 74 (bv_mr (bv_up cm_69 43 0 44)) (bv_up cm_69 43 0 44)) : bv_Ev M X d n0 n1 Q pc L st 74 cr_68 cm_69 := by
  intro l p e R s m args below meth c H locs ad0 ad ca0 ca D hC hR hag hW ls hl
  have h44 : (bv_up cm_69 43 0 44) 43 0 = 44 := by simp [bv_up]
  have hw : bv_ws ad ca 74 (bv_mr (bv_up cm_69 43 0 44)) (bv_up cm_69 43 0 44) = bv_ws ad ca 74 cr_68 cm_69 := by
    unfold bv_ws
    apply List.map_congr_left
    intro k hk
    have hk := List.mem_range.mp hk
    have hr : bv_mr (bv_up cm_69 43 0 44) k = cr_68 k := funext fun j => (bv_cr_eq h44 hk j).symm
    by_cases hk3 : k = 43
    · subst hk3
      rw [bv_sh43]
      simp only [bv_cell, hr]
      have hj : ∀ j, (if bv_isref (bv_fty 2 j) = true then va_rf ((cr_68 43 j).map ad) else Value.int (bv_up cm_69 43 0 44 43 j)) = (if bv_isref (bv_fty 2 j) = true then va_rf ((cr_68 43 j).map ad) else Value.int (cm_69 43 j)) := by
        intro j
        by_cases hj0 : j = 0
        · subst hj0
          rw [if_pos (by decide), if_pos (by decide)]
        · simp [bv_up, hj0]
      simp only [hj]
    · rw [bv_cell_other hr (bv_up_row hk3)]
  exact k l p e R s m args below meth c H locs ad0 ad ca0 ca D hC hR hag ⟨by rw [hw]; exact hW.1, by rw [hw]; exact hW.2.1, hW.2.2.1, hW.2.2.2.1, bv_mb_mr h44⟩ ls hl
set_option maxRecDepth 100000 in
set_option maxHeartbeats 4000000 in
/-- the law from its entry, over pictures -/
theorem law_start {I : bv_Mem → Prop} (hs_land : bv_S_land I) (hs_ofPlace : bv_S_ofPlace I) (hs_village : bv_S_village I) (hs_moves : bv_S_moves I) (hs_at : bv_S_at I) (hs_fill : bv_S_fill I) (hs_ofBottle : bv_S_ofBottle I) (hs_become : bv_S_become I) (hs_as : bv_S_as I) (hs_open : bv_S_open I) (hs_feed : bv_S_feed I) (hs_text : bv_S_text I) (hs_law : bv_S_law I) (hs_days : bv_S_days I) (hs_loose : bv_S_loose I) (hs_view : bv_S_view I) (hs_again : bv_S_again I) (hs_best : bv_S_best I) (hs_tower : bv_S_tower I) (hs_mutual : bv_S_mutual I) (hs_unseen : bv_S_unseen I) (hs_cover : bv_S_cover I) (hs_keeps : bv_S_keeps I) (hs_blend : bv_S_blend I) (hs_thief : bv_S_thief I) (hs_both : bv_S_both I) (hs_seed : bv_S_seed I) (hs_voice : bv_S_voice I) (hs_trace : bv_S_trace I) (hs_sheet : bv_S_sheet I) (hs_put : bv_S_put I) (hs_move : bv_S_move I) (hs_heights : bv_S_heights I) (hs_judge : bv_S_judge I) (hs_image : bv_S_image I) (hs_restore : bv_S_restore I) (hs_tell : bv_S_tell I) (hs_check : bv_S_check I) (hs_count : bv_S_count I) (hs_told : bv_S_told I) (hI0 : I (bv_up cm_69 43 0 44)) {L : Nat} {xs : Nat → Int32} (hL : L ≤ 3072) : bv_Ev ML_law (bv_XL L xs) 2000 0 74 bv_QL 0 [some (.ref (1000 + 3)), none, none, none] [] 0 cr_0 cm_0 := by
  refine ev_new (ci := 7) dL_law_0 rfl (by decide) (List.mem_of_getElem? (i := 84) (by decide +kernel)) (List.mem_of_getElem? (i := 85) (by decide +kernel)) (List.mem_of_getElem? (i := 72) (by decide +kernel)) (by decide) (by decide) (by decide) (fun _ => rfl) (fun _ => rfl) rfl rfl ?_
  refine ev_dup dL_law_3 rfl ?_
  refine ev_callI [] lk_L_9 dL_law_4 rfl rfl (bv_XL_sub L xs) wi_X7_init_0 (by decide) (by decide) (by decide) (by decide) (by decide) (Or.inr ⟨rfl, rfl⟩) (fun r mr' mi' hq => ?_)
  obtain ⟨rfl, rfl, rfl⟩ := hq
  refine ev_astore_n dL_law_7 rfl rfl ?_
  refine ev_new (ci := 8) dL_law_8 rfl (by decide) (List.mem_of_getElem? (i := 767) (by decide +kernel)) (List.mem_of_getElem? (i := 768) (by decide +kernel)) (List.mem_of_getElem? (i := 80) (by decide +kernel)) (by decide) (by decide) (by decide) (fun _ => rfl) (fun _ => rfl) rfl rfl ?_
  refine ev_dup dL_law_11 rfl ?_
  refine ev_callI [] lk_L_12 dL_law_12 rfl rfl (bv_XL_sub L xs) wi_X8_init_61 (by decide) (by decide) (by decide) (by decide) (by decide) (Or.inr ⟨rfl, rfl⟩) (fun r mr' mi' hq => ?_)
  obtain ⟨rfl, rfl, rfl⟩ := hq
  refine ev_astore_n dL_law_15 rfl rfl ?_
  refine ev_iconst (0 : Int32) dL_law_16 (by decide) ?_
  refine ev_istore_n dL_law_17 rfl rfl ?_
  refine bv_settle ?_
  exact law_loop hs_land hs_ofPlace hs_village hs_moves hs_at hs_fill hs_ofBottle hs_become hs_as hs_open hs_feed hs_text hs_law hs_days hs_loose hs_view hs_again hs_best hs_tower hs_mutual hs_unseen hs_cover hs_keeps hs_blend hs_thief hs_both hs_seed hs_voice hs_trace hs_sheet hs_put hs_move hs_heights hs_judge hs_image hs_restore hs_tell hs_check hs_count hs_told hL (L + 1) 0 _ (Nat.zero_le L) (by omega) hI0
