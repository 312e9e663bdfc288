-- ===== how the class reads a text =====
def q7f (tp : Nat) (c y : bv_Mem) : Prop := (∀ a, a ≠ 43 → a ≠ 46 → y a = c a) ∧ y 43 0 = nI tp
def q7 (tp n u : Nat) (fa : Nat → Int32) (c y : bv_Mem) (i : Nat) : Prop := q7f tp c y ∧ y 43 1 = nI u ∧ y 43 3 = nI i ∧ y 43 4 = px_sg (px_src (c (tp + 1))) n i ∧ y 43 5 = -1 ∧ ∀ k, k < 3 → y 46 k = fa k
def b7 (tp : Nat) (c y : bv_Mem) (i : Nat) : Prop := q7f tp c y ∧ y 43 3 = nI i ∧ y 43 4 = -1 ∧ y 43 5 = nI i
def tp_ok (tp n : Nat) (c : bv_Mem) : Prop := (tp = 7 ∨ tp = 9 ∨ tp = 11) ∧ n ≤ 50 ∧ c tp 1 = nI n
def s7 (tp n u : Nat) (fa : Nat → Int32) (c : bv_Mem) (px : Nat → px_R) (R : bv_Mem → Option (Int32 × bv_Mem)) : Prop := ∀ i y, i ≤ n → q7 tp n u fa c y i → ((px i).2.1 = true → ∃ v y', R y = some (v, y') ∧ q7 tp n u fa c y' (px i).1 ∧ px_val fa (px i).2.2 v) ∧ ((px i).2.1 = false → ∃ v y', R y = some (v, y') ∧ b7 tp c y' (px i).1)
theorem tp_rf : ∀ tp, tp = 7 ∨ tp = 9 ∨ tp = 11 → bv_isC 74 tp 4 = true ∧ bv_RF tp 0 = some (tp + 1) ∧ bv_isA 74 (tp + 1) 1 (bv_len (tp + 1)) = true ∧ bv_len (tp + 1) = 50 := by
  rintro tp (rfl | rfl | rfl) <;> decide
theorem step7 {tp n u j : Nat} {fa : Nat → Int32} {c y : bv_Mem} (ht : tp_ok tp n c) (hf : q7f tp c y) (h1 : y 43 1 = nI u) (h5 : y 43 5 = -1) (h6 : ∀ k, k < 3 → y 46 k = fa k) (hj : y 43 3 + 1 = nI j) (hjl : j < 1000) : ∃ y', f_X2_step y = some y' ∧ q7 tp n u fa c y' j := by
  obtain ⟨ht1, ht2, ht3⟩ := ht
  obtain ⟨r1, r2, r3, r4⟩ := tp_rf tp ht1
  have t43 : tp ≠ 43 ∧ tp ≠ 46 ∧ tp + 1 ≠ 43 ∧ tp + 1 ≠ 46 ∧ tp < 100 := by omega
  have e0 : bv_up y 43 3 (nI j) 43 0 = nI tp := by rw [bv_up_nn (by omega)]; exact hf.2
  have e1 : bv_up y 43 3 (nI j) tp 1 = nI n := by rw [bv_up_row (by omega), hf.1 tp (by omega) (by omega), ht3]
  have e2 : bv_up y 43 3 (nI j) (tp + 1) = c (tp + 1) := by rw [bv_up_row (by omega), hf.1 _ (by omega) (by omega)]
  have ec : (nI tp).toNatClampNeg = tp := nI_clamp (by omega)
  have fin : ∀ s, s = px_sg (px_src (c (tp + 1))) n j → q7 tp n u fa c (bv_up (bv_up y 43 3 (nI j)) 43 4 s) j := by
    intro s hs
    refine ⟨⟨fun a h1 h2 => by rw [bv_up_row h1, bv_up_row h1]; exact hf.1 a h1 h2, by rw [bv_up_nn (by omega), bv_up_nn (by omega)]; exact hf.2⟩, ?_, ?_, ?_, ?_, ?_⟩
    · rw [bv_up_nn (by omega), bv_up_nn (by omega)]; exact h1
    · rw [bv_up_nn (by omega), bv_up_eq]
    · rw [bv_up_eq, hs]
    · rw [bv_up_nn (by omega), bv_up_nn (by omega)]; exact h5
    · intro k hk
      rw [bv_up_row (by omega), bv_up_row (by omega)]
      exact h6 k hk
  unfold f_X2_step
  rw [hj, e0, ec, if_pos r1, e1, bv_up_eq]
  by_cases hq : n ≤ j
  · rw [if_pos (nI_le hq (by omega))]
    refine ⟨_, rfl, fin _ ?_⟩
    unfold px_sg
    rw [if_neg (by omega)]
  · rw [if_neg (nI_ge (by omega) (by omega)), bd1 r2, if_pos r3, r4, if_pos (nb_in (by omega) (by omega)), nI_clamp (by omega), e2]
    refine ⟨_, rfl, fin _ ?_⟩
    unfold px_sg px_src
    rw [if_pos (by omega), if_pos (by omega)]
theorem stp7 {tp n u i : Nat} {fa : Nat → Int32} {c y : bv_Mem} (ht : tp_ok tp n c) (hi : i ≤ n) (h : q7 tp n u fa c y i) : ∃ y', f_X2_step y = some y' ∧ q7 tp n u fa c y' (i + 1) :=
  step7 ht h.1 h.2.1 h.2.2.2.2.1 h.2.2.2.2.2 (by rw [h.2.2.1, nI_1]) (by have := ht.2.1; omega)
theorem ref7 {tp i : Nat} {c y : bv_Mem} (hf : q7f tp c y) (h : y 43 3 = nI i) : ∃ y', f_X2_refuse y = some y' ∧ b7 tp c y' i := by
  refine ⟨_, rfl, ⟨fun a h1 h2 => by rw [bv_up_row h1, bv_up_row h1]; exact hf.1 a h1 h2, by rw [bv_up_nn (by omega), bv_up_nn (by omega)]; exact hf.2⟩, ?_, ?_, ?_⟩
  · rw [bv_up_nn (by omega), bv_up_nn (by omega)]; exact h
  · rw [bv_up_eq]
  · rw [bv_up_nn (by omega), bv_up_eq, h]
theorem m1_lev : px_lev (-1) = -1 := by decide
section L
variable {tp n u : Nat} {fa : Nat → Int32} {c : bv_Mem} {rJ : Int32 → Int32 → bv_Mem → Option (Int32 × bv_Mem)} {rS : Int32 → bv_Mem → Option (Int32 × bv_Mem)}
theorem loop7 {lvl l2 l3 : Int32} {most : Nat} {sub : Nat → px_R} {Rop : bv_Mem → Option (Int32 × bv_Mem)} (ht : tp_ok tp n c) (hl : lvl ≠ -1) (hm : most ≤ 50) (h0 : l3 = 0 → rJ (lvl + 1) l2 = Rop) (h1 : l3 ≠ 0 → rS l2 = Rop) (hs : s7 tp n u fa c sub Rop) (ha : px_adv n sub) : ∀ (f j fu i : Nat) (y : bv_Mem) (v0 : Int32) (c0 : List (Int32 × Int32)), j + f = most → f < fu → i ≤ n → q7 tp n u fa c y i → px_val fa c0 v0 → ((px_loop (px_src (c (tp + 1))) n lvl sub f i c0).2.1 = true → ∃ v y', b_X2_readJoined_49 rJ rS fu lvl l2 l3 v0 (nI most) (nI j) y = some (v, y') ∧ q7 tp n u fa c y' (px_loop (px_src (c (tp + 1))) n lvl sub f i c0).1 ∧ px_val fa (px_loop (px_src (c (tp + 1))) n lvl sub f i c0).2.2 v) ∧ ((px_loop (px_src (c (tp + 1))) n lvl sub f i c0).2.1 = false → ∃ v y', b_X2_readJoined_49 rJ rS fu lvl l2 l3 v0 (nI most) (nI j) y = some (v, y') ∧ b7 tp c y' (px_loop (px_src (c (tp + 1))) n lvl sub f i c0).1) := by
  intro f
  induction f with
  | zero =>
    intro j fu i y v0 c0 hj hf hi hq hv
    obtain ⟨fu, rfl⟩ : ∃ k, fu = k + 1 := ⟨fu - 1, by omega⟩
    refine ⟨fun _ => ⟨v0, y, ?_, hq, hv⟩, fun q => by cases q⟩
    rw [b_X2_readJoined_49, if_pos (nI_le (by omega) (by omega))]
  | succ f ih =>
    intro j fu i y v0 c0 hj hf hi hq hv
    obtain ⟨fu, rfl⟩ : ∃ k, fu = k + 1 := ⟨fu - 1, by omega⟩
    have e1 : ¬ nI most ≤ nI j := nI_ge (by omega) (by omega)
    rw [px_loop, b_X2_readJoined_49, if_neg e1, bd1 (lev7 _ _), hq.2.2.2.1]
    by_cases hlv : px_lev (px_sg (px_src (c (tp + 1))) n i) = lvl
    · rw [if_pos hlv, if_pos hlv]
      have hlt : i < n := sg_lt rfl (lev_m1 hlv hl)
      obtain ⟨y1, g1, g2⟩ := stp7 ht hi hq
      rw [bd1 g1]
      have hop : ∀ (K : Int32 → bv_Mem → Option (Int32 × bv_Mem)), (if l3 = 0 then (rJ (lvl + 1) l2 y1).bind fun z3 => K z3.1 z3.2 else (rS l2 y1).bind fun z4 => K z4.1 z4.2) = (Rop y1).bind fun z => K z.1 z.2 := by
        intro K
        by_cases hz : l3 = 0
        · rw [if_pos hz, h0 hz]
        · rw [if_neg hz, h1 hz]
      rw [hop]
      obtain ⟨s1, s2⟩ := hs (i + 1) y1 (by omega) g2
      obtain ⟨a1, a2, a3⟩ := ha (i + 1) (by omega)
      by_cases ho : (sub (i + 1)).2.1 = true
      · rw [if_pos ho]
        obtain ⟨v, y2, k1, k2, k3⟩ := s1 ho
        rw [bd1 k1]
        dsimp only
        obtain ⟨z, t1, t2⟩ := two7 hlv hl v0 v y2 px_m0
        obtain ⟨w1, w2, w3⟩ := lev_123 hlv hl
        rw [b_X2_readJoined_97, bd1 t1, show nI j + 1 = nI (j + 1) from nI_1 j]
        exact ih (j + 1) fu (sub (i + 1)).1 y2 z _ (by omega) (by omega) a1 k2 (val_two hv k3 w1 w2 w3 t2)
      · rw [if_neg ho]
        refine ⟨fun q => (by cases q), fun _ => ?_⟩
        have ho' : (sub (i + 1)).2.1 = false := by simpa using ho
        obtain ⟨v, y2, k1, k2⟩ := s2 ho'
        rw [bd1 k1]
        dsimp only
        obtain ⟨z, t1, t2⟩ := two7 hlv hl v0 v y2 px_m0
        rw [b_X2_readJoined_97, bd1 t1, show nI j + 1 = nI (j + 1) from nI_1 j]
        obtain ⟨fu, rfl⟩ : ∃ k, fu = k + 1 := ⟨fu - 1, by omega⟩
        refine ⟨z, y2, ?_, k2⟩
        rw [b_X2_readJoined_49]
        by_cases hz : nI most ≤ nI (j + 1)
        · rw [if_pos hz]
        · rw [if_neg hz, bd1 (lev7 _ _), k2.2.2.1, m1_lev, if_neg (fun q => hl q.symm)]
    · rw [if_neg hlv, if_neg hlv]
      exact ⟨fun _ => ⟨v0, y, rfl, hq, hv⟩, fun q => by cases q⟩
theorem join7 {lvl l2 l3 : Int32} {most : Nat} {sub : Nat → px_R} {Rop : bv_Mem → Option (Int32 × bv_Mem)} (ht : tp_ok tp n c) (hl : lvl ≠ -1) (hm : most = if lvl = 2 then 1 else 50) (h3 : l3 = if lvl < 4 then 0 else 1) (h0 : l3 = 0 → rJ (lvl + 1) l2 = Rop) (h1 : l3 ≠ 0 → rS l2 = Rop) (hs : s7 tp n u fa c sub Rop) (ha : px_adv n sub) : s7 tp n u fa c (px_join (px_src (c (tp + 1))) n lvl most sub) (F_X2_readJoined rJ rS lvl l2) := by
  intro i y hi hq
  obtain ⟨a1, a2, a3⟩ := ha i hi
  obtain ⟨s1, s2⟩ := hs i y hi hq
  have e1 : F_X2_readJoined rJ rS lvl l2 y = (Rop y).bind fun z => b_X2_readJoined_49 rJ rS 400 lvl l2 l3 z.1 (nI most) (nI 0) z.2 := by
    have e31 : ∀ v z, b_X2_readJoined_31 rJ rS lvl l2 l3 v z = b_X2_readJoined_49 rJ rS 400 lvl l2 l3 v (nI most) (nI 0) z := by
      intro v z
      rw [b_X2_readJoined_31, hm]
      by_cases h2 : lvl = 2
      · rw [if_pos h2, if_pos h2]; rfl
      · rw [if_neg h2, if_neg h2]; rfl
    have e10 : b_X2_readJoined_10 rJ rS lvl l2 l3 y = (Rop y).bind fun z => b_X2_readJoined_49 rJ rS 400 lvl l2 l3 z.1 (nI most) (nI 0) z.2 := by
      rw [b_X2_readJoined_10]
      simp only [e31]
      by_cases hz : l3 = 0
      · rw [if_pos hz, h0 hz]
      · rw [if_neg hz, h1 hz]
    unfold F_X2_readJoined
    rw [← e10, h3]
    by_cases h4 : lvl < 4
    · rw [if_pos h4, if_pos h4]
    · rw [if_neg h4, if_neg h4]
  have hm50 : most ≤ 50 := by
    rw [hm]
    split <;> omega
  rw [e1]
  unfold px_join
  by_cases ho : (sub i).2.1 = true
  · rw [if_pos ho]
    obtain ⟨v, y2, k1, k2, k3⟩ := s1 ho
    rw [bd1 k1]
    exact loop7 ht hl hm50 h0 h1 hs ha most 0 400 (sub i).1 y2 v (sub i).2.2 (by omega) (by omega) a1 k2 k3
  · rw [if_neg ho]
    refine ⟨fun q => (by cases q), fun _ => ?_⟩
    have ho' : (sub i).2.1 = false := by simpa using ho
    obtain ⟨v, y2, k1, k2⟩ := s2 ho'
    rw [bd1 k1]
    refine ⟨v, y2, ?_, k2⟩
    dsimp only
    rw [show (400 : Nat) = 399 + 1 from rfl, b_X2_readJoined_49]
    by_cases hz : nI most ≤ nI 0
    · rw [if_pos hz]
    · rw [if_neg hz, bd1 (lev7 _ _), k2.2.2.1, m1_lev, if_neg (fun q => hl q.symm)]
-- ===== one =====
theorem num7 {l1 : Int32} (ht : tp_ok tp n c) : ∀ (k dg fu i : Nat) (y : bv_Mem) (v : Int32), k + dg = 4 → k < fu → i ≤ n → q7 tp n u fa c y i → ∃ y', b_X2_readSingle_4 rJ rS fu l1 v (nI dg) y = b_X2_readSingle_50 rJ rS l1 (px_num (px_src (c (tp + 1))) n k i v).2 (nI (dg + ((px_num (px_src (c (tp + 1))) n k i v).1 - i))) y' ∧ q7 tp n u fa c y' (px_num (px_src (c (tp + 1))) n k i v).1 := by
  intro k
  induction k with
  | zero =>
    intro dg fu i y v hk hf hi hq
    obtain ⟨fu, rfl⟩ : ∃ k, fu = k + 1 := ⟨fu - 1, by omega⟩
    have e4 : dg = 4 := by omega
    subst e4
    refine ⟨y, ?_, hq⟩
    rw [b_X2_readSingle_4, if_pos (by decide), px_num]
    dsimp only
    rw [Nat.sub_self]
  | succ k ih =>
    intro dg fu i y v hk hf hi hq
    obtain ⟨fu, rfl⟩ : ∃ k, fu = k + 1 := ⟨fu - 1, by omega⟩
    have e4 : ¬ (4 : Int32) ≤ nI dg := nI_ge (b := 4) (by omega) (by omega)
    rw [b_X2_readSingle_4, if_neg e4, px_num, hq.2.2.2.1]
    by_cases hd : 48 ≤ px_sg (px_src (c (tp + 1))) n i ∧ px_sg (px_src (c (tp + 1))) n i ≤ 57
    · have hlt : i < n := sg_lt rfl (fun q => by rw [q] at hd; exact absurd hd.1 (by decide))
      obtain ⟨y1, g1, g2⟩ := stp7 ht hi hq
      rw [if_neg (i_nlt.mpr hd.1), if_neg (i_nlt.mpr hd.2), if_pos hd, bd1 g1, show nI dg + 1 = nI (dg + 1) from nI_1 dg]
      obtain ⟨y2, k1, k2⟩ := ih (dg + 1) fu (i + 1) y1 (v * 10 + px_sg (px_src (c (tp + 1))) n i - 48) (by omega) (by omega) (by omega) g2
      obtain ⟨q1, q2⟩ := num_adv (src := px_src (c (tp + 1))) (n := n) k (i + 1) (v * 10 + px_sg (px_src (c (tp + 1))) n i - 48) (by omega)
      refine ⟨y2, ?_, k2⟩
      rw [k1]
      congr 2
      omega
    · rw [if_neg hd]
      refine ⟨y, ?_, hq⟩
      dsimp only
      rw [Nat.sub_self]
      by_cases h1 : px_sg (px_src (c (tp + 1))) n i < 48
      · rw [if_pos h1]
        rfl
      · rw [if_neg h1, if_pos (i_nle.mp (fun q => hd ⟨i_nlt.mp h1, q⟩))]
        rfl
theorem nm_0 (x : Int32) : px_nm 0 x = if x = 104 then some 0 else if x = 115 then some 1 else if x = 100 then some 2 else none := rfl
theorem nm_1 (x : Int32) : px_nm 1 x = if x = 107 then some 0 else if x = 108 then some 1 else if x = 97 then some 2 else none := rfl
/-- behind the names -/
def rst7 (rJ : Int32 → Int32 → bv_Mem → Option (Int32 × bv_Mem)) (rS : Int32 → bv_Mem → Option (Int32 × bv_Mem)) (l1 : Int32) (y : bv_Mem) : Option (Int32 × bv_Mem) :=
  if (5 : Int32) ≤ l1 then b_X2_readSingle_137 rJ rS l1 y else
    if (y 43 4) = (33 : Int32) then
      (f_X2_step y).bind fun z1 =>
      (rS (l1 + (1 : Int32)) z1).bind fun z2 =>
      if z2.1 = 0 then some ((1 : Int32), z2.2) else some ((0 : Int32), z2.2)
    else b_X2_readSingle_137 rJ rS l1 y
theorem nm7 {l1 : Int32} (ht : tp_ok tp n c) (hu : u ≤ 1) {i fu : Nat} {y : bv_Mem} (hi : i ≤ n) (hq : q7 tp n u fa c y i) : (∀ k, px_nm u (px_sg (px_src (c (tp + 1))) n i) = some k → ∃ j y', k = nI j ∧ j < 3 ∧ b_X2_readSingle_59 rJ rS (fu + 1 + 1 + 1 + 1) l1 0 y = some (fa j, y') ∧ q7 tp n u fa c y' (i + 1)) ∧ (px_nm u (px_sg (px_src (c (tp + 1))) n i) = none → b_X2_readSingle_59 rJ rS (fu + 1 + 1 + 1 + 1) l1 0 y = rst7 rJ rS l1 y) := by
  obtain ⟨y1, g1, g2⟩ := stp7 ht hi hq
  have hx := hq.2.2.2.1
  have h1 := hq.2.1
  have f0 : y1 46 0 = fa 0 := g2.2.2.2.2.2 0 (by omega)
  have f1 : y1 46 1 = fa 1 := g2.2.2.2.2.2 1 (by omega)
  have f2 : y1 46 2 = fa 2 := g2.2.2.2.2.2 2 (by omega)
  generalize px_sg (px_src (c (tp + 1))) n i = x at hx
  have main : ∀ w0 w1 w2 : Int32, bv_in (nI u * 3 + 0) 6 = true → bv_in (nI u * 3 + (0 + 1)) 6 = true → bv_in (nI u * 3 + (0 + 1 + 1)) 6 = true → bv_x0 (nI u * 3 + 0).toNatClampNeg = w0 → bv_x0 (nI u * 3 + (0 + 1)).toNatClampNeg = w1 → bv_x0 (nI u * 3 + (0 + 1 + 1)).toNatClampNeg = w2 → b_X2_readSingle_59 rJ rS (fu + 1 + 1 + 1 + 1) l1 0 y = if x = w0 then some (fa 0, y1) else if x = w1 then some (fa 1, y1) else if x = w2 then some (fa 2, y1) else rst7 rJ rS l1 y := by
    intro w0 w1 w2 b0 b1 b2 e0 e1 e2
    have s0 : ¬ (3 : Int32) ≤ 0 := by decide
    have s1 : ¬ (3 : Int32) ≤ 0 + 1 := by decide
    have s2 : ¬ (3 : Int32) ≤ 0 + 1 + 1 := by decide
    have s3 : (3 : Int32) ≤ 0 + 1 + 1 + 1 := by decide
    rw [b_X2_readSingle_59, if_neg s0, h1, if_pos b0, hx, e0, bd1 g1, if_pos (show bv_in 0 3 = true by decide), b_X2_readSingle_59, if_neg s1, h1, if_pos b1, hx, e1, bd1 g1, if_pos (show bv_in (0 + 1) 3 = true by decide), b_X2_readSingle_59, if_neg s2, h1, if_pos b2, hx, e2, bd1 g1, if_pos (show bv_in (0 + 1 + 1) 3 = true by decide), b_X2_readSingle_59, if_pos s3]
    rw [show ((0 : Int32)).toNatClampNeg = 0 from rfl, show ((0 : Int32) + 1).toNatClampNeg = 1 from by decide, show ((0 : Int32) + 1 + 1).toNatClampNeg = 2 from by decide, f0, f1, f2]
    rfl
  match u, hu with
  | 0, _ =>
    have := main 104 115 100 (by decide) (by decide) (by decide) (by decide) (by decide) (by decide)
    rw [this, nm_0]
    by_cases w0 : x = 104
    · rw [if_pos w0, if_pos w0]
      exact ⟨fun k hk => ⟨0, y1, (Option.some.inj hk).symm, by omega, rfl, g2⟩, fun q => by cases q⟩
    · rw [if_neg w0, if_neg w0]
      by_cases w1 : x = 115
      · rw [if_pos w1, if_pos w1]
        exact ⟨fun k hk => ⟨1, y1, (Option.some.inj hk).symm, by omega, rfl, g2⟩, fun q => by cases q⟩
      · rw [if_neg w1, if_neg w1]
        by_cases w2 : x = 100
        · rw [if_pos w2, if_pos w2]
          exact ⟨fun k hk => ⟨2, y1, (Option.some.inj hk).symm, by omega, rfl, g2⟩, fun q => by cases q⟩
        · rw [if_neg w2, if_neg w2]
          exact ⟨fun k hk => (by cases hk), fun _ => rfl⟩
  | 1, _ =>
    have := main 107 108 97 (by decide) (by decide) (by decide) (by decide) (by decide) (by decide)
    rw [this, nm_1]
    by_cases w0 : x = 107
    · rw [if_pos w0, if_pos w0]
      exact ⟨fun k hk => ⟨0, y1, (Option.some.inj hk).symm, by omega, rfl, g2⟩, fun q => by cases q⟩
    · rw [if_neg w0, if_neg w0]
      by_cases w1 : x = 108
      · rw [if_pos w1, if_pos w1]
        exact ⟨fun k hk => ⟨1, y1, (Option.some.inj hk).symm, by omega, rfl, g2⟩, fun q => by cases q⟩
      · rw [if_neg w1, if_neg w1]
        by_cases w2 : x = 97
        · rw [if_pos w2, if_pos w2]
          exact ⟨fun k hk => ⟨2, y1, (Option.some.inj hk).symm, by omega, rfl, g2⟩, fun q => by cases q⟩
        · rw [if_neg w2, if_neg w2]
          exact ⟨fun k hk => (by cases hk), fun _ => rfl⟩
theorem one7 {r d : Nat} (ht : tp_ok tp n c) (hu : u ≤ 1) (hd : d + r = 5) (h1 : ∀ r', r = r' + 1 → s7 tp n u fa c (px_one (px_src (c (tp + 1))) n u r') (rS (nI (d + 1)))) (h2 : ∀ r', r = r' + 1 → s7 tp n u fa c (px_lvl (px_src (c (tp + 1))) n (px_one (px_src (c (tp + 1))) n u r') 0) (rJ 0 (nI (d + 1)))) : s7 tp n u fa c (px_one (px_src (c (tp + 1))) n u r) (F_X2_readSingle rJ rS (nI d)) := by
  intro i y hi hq
  obtain ⟨y1, k1, k2⟩ := num7 (rJ := rJ) (rS := rS) (l1 := nI d) ht 4 0 400 i y 0 (by omega) (by omega) hi hq
  obtain ⟨q1, q2⟩ := num_adv (src := px_src (c (tp + 1))) (n := n) 4 i 0 hi
  have e : F_X2_readSingle rJ rS (nI d) y = b_X2_readSingle_50 rJ rS (nI d) (px_num (px_src (c (tp + 1))) n 4 i 0).2 (nI (0 + ((px_num (px_src (c (tp + 1))) n 4 i 0).1 - i))) y1 := k1
  rw [e, b_X2_readSingle_50]
  by_cases hn : i < (px_num (px_src (c (tp + 1))) n 4 i 0).1
  · rw [one_num hn, if_neg (nI_nle (by omega) (by have := ht.2.1; omega))]
    exact ⟨fun _ => ⟨_, y1, rfl, k2, val_num⟩, fun q => by cases q⟩
  · have e0 : (px_num (px_src (c (tp + 1))) n 4 i 0).1 = i := by omega
    rw [e0] at k2
    rw [e0, Nat.sub_self, if_pos (show nI (0 + 0) ≤ 0 by decide)]
    obtain ⟨n1, n2⟩ := nm7 (rJ := rJ) (rS := rS) (l1 := nI d) (fu := 396) ht hu hi k2
    have eb : b_X2_readSingle_59 rJ rS 400 (nI d) 0 y1 = b_X2_readSingle_59 rJ rS (396 + 1 + 1 + 1 + 1) (nI d) 0 y1 := rfl
    rw [eb]
    cases hm : px_nm u (px_sg (px_src (c (tp + 1))) n i) with
    | some k =>
      obtain ⟨j, y2, rfl, hj, p1, p2⟩ := n1 k hm
      rw [one_nm hn hm, p1]
      exact ⟨fun _ => ⟨_, y2, rfl, p2, val_nm hj⟩, fun q => by cases q⟩
    | none =>
      rw [n2 hm]
      obtain ⟨y2, f1, f2⟩ := ref7 k2.1 k2.2.2.1
      have hx := k2.2.2.2.1
      unfold rst7
      match r, hd with
      | 0, hd =>
        have e5 : (5 : Int32) ≤ nI d := nI_le (a := 5) (by omega) (by omega)
        rw [one_0 hn hm, if_pos e5, b_X2_readSingle_137, if_pos e5, bd1 f1]
        exact ⟨fun q => (by cases q), fun _ => ⟨0, y2, rfl, f2⟩⟩
      | r + 1, hd =>
        have e5 : ¬ (5 : Int32) ≤ nI d := nI_ge (b := 5) (by omega) (by omega)
        rw [one_s hn hm, if_neg e5, hx, b_X2_readSingle_137, if_neg e5, hx, show nI d + 1 = nI (d + 1) from nI_1 d]
        obtain ⟨y3, g1, g2⟩ := stp7 ht hi k2
        by_cases h33 : px_sg (px_src (c (tp + 1))) n i = 33
        · have hlt : i < n := sg_lt h33 (by decide)
          rw [if_pos h33, if_pos h33, bd1 g1]
          obtain ⟨s1, s2⟩ := h1 r rfl (i + 1) y3 (by omega) g2
          by_cases ho : (px_one (px_src (c (tp + 1))) n u r (i + 1)).2.1 = true
          · rw [if_pos ho]
            refine ⟨fun _ => ?_, fun q => by cases q⟩
            obtain ⟨v, y4, p1, p2, p3⟩ := s1 ho
            rw [bd1 p1]
            dsimp only
            have hv := val_not p3
            by_cases hz : v = 0
            · rw [if_pos hz] at hv ⊢
              exact ⟨1, y4, rfl, p2, hv⟩
            · rw [if_neg hz] at hv ⊢
              exact ⟨0, y4, rfl, p2, hv⟩
          · rw [if_neg ho]
            refine ⟨fun q => (by cases q), fun _ => ?_⟩
            obtain ⟨v, y4, p1, p2⟩ := s2 (by simpa using ho)
            rw [bd1 p1]
            dsimp only
            by_cases hz : v = 0
            · rw [if_pos hz]; exact ⟨1, y4, rfl, p2⟩
            · rw [if_neg hz]; exact ⟨0, y4, rfl, p2⟩
        · rw [if_neg h33, if_neg h33]
          by_cases h40 : px_sg (px_src (c (tp + 1))) n i = 40
          · have hlt : i < n := sg_lt h40 (by decide)
            rw [if_pos h40, if_pos h40, bd1 g1]
            obtain ⟨s1, s2⟩ := h2 r rfl (i + 1) y3 (by omega) g2
            obtain ⟨a1, a2, a3⟩ := lvl_adv (src := px_src (c (tp + 1))) (one_adv (src := px_src (c (tp + 1))) (n := n) (u := u) r) (i + 1) (by omega)
            by_cases ho : (px_lvl (px_src (c (tp + 1))) n (px_one (px_src (c (tp + 1))) n u r) 0 (i + 1)).2.1 = true
            · obtain ⟨v, y4, p1, p2, p3⟩ := s1 ho
              rw [bd1 p1]
              dsimp only
              have e41 := p2.2.2.2.1
              by_cases h41 : px_sg (px_src (c (tp + 1))) n (px_lvl (px_src (c (tp + 1))) n (px_one (px_src (c (tp + 1))) n u r) 0 (i + 1)).1 = 41
              · rw [if_pos (e41.trans h41), if_pos ⟨ho, h41⟩]
                obtain ⟨y5, t1, t2⟩ := stp7 ht a1 p2
                rw [bd1 t1]
                exact ⟨fun _ => ⟨v, y5, rfl, t2, p3⟩, fun q => by cases q⟩
              · rw [if_neg (fun q => h41 (e41.symm.trans q)), if_neg (fun q => h41 q.2)]
                obtain ⟨y5, t1, t2⟩ := ref7 p2.1 p2.2.2.1
                rw [bd1 t1]
                exact ⟨fun q => (by cases q), fun _ => ⟨0, y5, rfl, t2⟩⟩
            · rw [if_neg (fun q => ho q.1)]
              obtain ⟨v, y4, p1, p2⟩ := s2 (by simpa using ho)
              rw [bd1 p1]
              dsimp only
              rw [if_neg (fun q => by rw [p2.2.2.1] at q; exact absurd q (by decide))]
              obtain ⟨y5, t1, t2⟩ := ref7 p2.1 p2.2.1
              rw [bd1 t1]
              exact ⟨fun q => (by cases q), fun _ => ⟨0, y5, rfl, t2⟩⟩
          · rw [if_neg h40, if_neg h40, bd1 f1]
            exact ⟨fun q => (by cases q), fun _ => ⟨0, y2, rfl, f2⟩⟩
end L
/-- the whole tower of readers -/
theorem all7_r {tp n u : Nat} {fa : Nat → Int32} {c : bv_Mem} (ht : tp_ok tp n c) (hu : u ≤ 1) : ∀ (r d k : Nat), d + r = 5 → 6 * r + 6 ≤ k → s7 tp n u fa c (px_one (px_src (c (tp + 1))) n u r) ((G_X2 (k - 5)).2 (nI d)) ∧ s7 tp n u fa c (px_lvl (px_src (c (tp + 1))) n (px_one (px_src (c (tp + 1))) n u r) 0) ((G_X2 k).1 0 (nI d)) := by
  intro r
  induction r with
  | zero =>
    intro d k hd hk
    obtain ⟨k, rfl⟩ : ∃ j, k = j + 6 := ⟨k - 6, by omega⟩
    have h1 : s7 tp n u fa c (px_one (px_src (c (tp + 1))) n u 0) ((G_X2 (k + 6 - 5)).2 (nI d)) := one7 (rJ := (G_X2 k).1) (rS := (G_X2 k).2) ht hu hd (fun r' e => by omega) (fun r' e => by omega)
    refine ⟨h1, ?_⟩
    have a0 := one_adv (src := px_src (c (tp + 1))) (n := n) (u := u) 0
    have j4 := join7 (rJ := (G_X2 (k + 1)).1) (rS := (G_X2 (k + 1)).2) (lvl := 4) (l2 := nI d) (l3 := 1) (most := 50) ht (by decide) (by rfl) (by rfl) (fun q => absurd q (by decide)) (fun _ => rfl) h1 a0
    have a4 := join_adv (src := px_src (c (tp + 1))) (lvl := 4) (most := 50) (by decide) a0
    have j3 := join7 (rJ := (G_X2 (k + 2)).1) (rS := (G_X2 (k + 2)).2) (lvl := 3) (l2 := nI d) (l3 := 0) (most := 50) ht (by decide) (by rfl) (by rfl) (fun _ => rfl) (fun q => absurd rfl q) j4 a4
    have a3 := join_adv (src := px_src (c (tp + 1))) (lvl := 3) (most := 50) (by decide) a4
    have j2 := join7 (rJ := (G_X2 (k + 3)).1) (rS := (G_X2 (k + 3)).2) (lvl := 2) (l2 := nI d) (l3 := 0) (most := 1) ht (by decide) (by rfl) (by rfl) (fun _ => rfl) (fun q => absurd rfl q) j3 a3
    have a2 := join_adv (src := px_src (c (tp + 1))) (lvl := 2) (most := 1) (by decide) a3
    have j1 := join7 (rJ := (G_X2 (k + 4)).1) (rS := (G_X2 (k + 4)).2) (lvl := 1) (l2 := nI d) (l3 := 0) (most := 50) ht (by decide) (by rfl) (by rfl) (fun _ => rfl) (fun q => absurd rfl q) j2 a2
    have a1 := join_adv (src := px_src (c (tp + 1))) (lvl := 1) (most := 50) (by decide) a2
    exact join7 (rJ := (G_X2 (k + 5)).1) (rS := (G_X2 (k + 5)).2) (lvl := 0) (l2 := nI d) (l3 := 0) (most := 50) ht (by decide) (by rfl) (by rfl) (fun _ => rfl) (fun q => absurd rfl q) j1 a1
  | succ r ih =>
    intro d k hd hk
    obtain ⟨k, rfl⟩ : ∃ j, k = j + 6 := ⟨k - 6, by omega⟩
    have i1 := (ih (d + 1) k (by omega) (by omega)).2
    have i2 := (ih (d + 1) (k + 5) (by omega) (by omega)).1
    have h1 : s7 tp n u fa c (px_one (px_src (c (tp + 1))) n u (r + 1)) ((G_X2 (k + 6 - 5)).2 (nI d)) := one7 (rJ := (G_X2 k).1) (rS := (G_X2 k).2) ht hu hd (fun r' e => by
        have : r' = r := by omega
        subst this
        exact i2) (fun r' e => by
        have : r' = r := by omega
        subst this
        exact i1)
    refine ⟨h1, ?_⟩
    have a0 := one_adv (src := px_src (c (tp + 1))) (n := n) (u := u) (r + 1)
    have j4 := join7 (rJ := (G_X2 (k + 1)).1) (rS := (G_X2 (k + 1)).2) (lvl := 4) (l2 := nI d) (l3 := 1) (most := 50) ht (by decide) (by rfl) (by rfl) (fun q => absurd q (by decide)) (fun _ => rfl) h1 a0
    have a4 := join_adv (src := px_src (c (tp + 1))) (lvl := 4) (most := 50) (by decide) a0
    have j3 := join7 (rJ := (G_X2 (k + 2)).1) (rS := (G_X2 (k + 2)).2) (lvl := 3) (l2 := nI d) (l3 := 0) (most := 50) ht (by decide) (by rfl) (by rfl) (fun _ => rfl) (fun q => absurd rfl q) j4 a4
    have a3 := join_adv (src := px_src (c (tp + 1))) (lvl := 3) (most := 50) (by decide) a4
    have j2 := join7 (rJ := (G_X2 (k + 3)).1) (rS := (G_X2 (k + 3)).2) (lvl := 2) (l2 := nI d) (l3 := 0) (most := 1) ht (by decide) (by rfl) (by rfl) (fun _ => rfl) (fun q => absurd rfl q) j3 a3
    have a2 := join_adv (src := px_src (c (tp + 1))) (lvl := 2) (most := 1) (by decide) a3
    have j1 := join7 (rJ := (G_X2 (k + 4)).1) (rS := (G_X2 (k + 4)).2) (lvl := 1) (l2 := nI d) (l3 := 0) (most := 50) ht (by decide) (by rfl) (by rfl) (fun _ => rfl) (fun q => absurd rfl q) j2 a2
    have a1 := join_adv (src := px_src (c (tp + 1))) (lvl := 1) (most := 50) (by decide) a2
    exact join7 (rJ := (G_X2 (k + 5)).1) (rS := (G_X2 (k + 5)).2) (lvl := 0) (l2 := nI d) (l3 := 0) (most := 50) ht (by decide) (by rfl) (by rfl) (fun _ => rfl) (fun q => absurd rfl q) j1 a1
