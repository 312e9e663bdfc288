-- ===== fill =====
/-- what the two loops need of each other -/
def fl_X (x z : bv_Mem) : Prop := bt_X 0 (x 10) (x 9 1) (fun k => z 62 (169 + k)) ∧ (∀ p, p < 20 → z 62 (11 + p) = x 3 p) ∧ z 62 0 = x 1 5
theorem fl_lp {P fr : Nat} {K : Int32} (hP : P < 2 ^ 20) (hfr : fr < 20) : ∀ (n i f7 f8 : Nat) (x z : bv_Mem), i + n = 20 → n < f7 → n < f8 → fl_X x z → ∃ (x' z' : bv_Mem), b_X7_takeOut_2 f7 (nI P) (nI fr) (nI i) x = some x' ∧ b_X8_fill_166 f8 (nI P) (nI fr) K (nI i) z = some (K, z') ∧ (∀ a, a ≠ 4 → a ≠ 43 → a ≠ 46 → x' a = x a) ∧ (∀ a, a ≠ 62 → a ≠ 68 → a ≠ 69 → z' a = z a) ∧ (∀ k, k < 31 + i ∨ 51 ≤ k → z' 62 k = z 62 k) ∧ (∀ k, k < i ∨ 20 ≤ k → x' 4 k = x 4 k) ∧ (∀ k, i ≤ k → k < 20 → (∃ v, v ≤ 99 ∧ x' 4 k = nI v ∧ z' 62 (31 + k) = nI v) ∨ (x' 4 k = x 4 k ∧ z' 62 (31 + k) = z 62 (31 + k))) := by
  intro n
  induction n with
  | zero =>
    intro i f7 f8 x z hi h7 h8 hX
    obtain ⟨f7, rfl⟩ : ∃ k, f7 = k + 1 := ⟨f7 - 1, by omega⟩
    obtain ⟨f8, rfl⟩ : ∃ k, f8 = k + 1 := ⟨f8 - 1, by omega⟩
    have e : i = 20 := by omega
    subst e
    refine ⟨x, z, ?_, ?_, fun _ _ _ _ => rfl, fun _ _ _ _ => rfl, fun _ _ => rfl, fun _ _ => rfl, fun k h1 h2 => by omega⟩
    · rw [b_X7_takeOut_2, if_pos (by decide)]
    · rw [b_X8_fill_166, if_pos (by decide)]
  | succ n ih =>
    intro i f7 f8 x z hi h7 h8 hX
    obtain ⟨f7, rfl⟩ : ∃ k, f7 = k + 1 := ⟨f7 - 1, by omega⟩
    obtain ⟨f8, rfl⟩ : ∃ k, f8 = k + 1 := ⟨f8 - 1, by omega⟩
    have e1 : ¬ (20 : Int32) ≤ nI i := nI_ge (b := 20) (by omega) (by omega)
    have hz := b_z (X := P) (j := i) (by omega) (by omega)
    have ho := b_o (X := P) (j := i) (by omega) (by omega)
    rw [b_X7_takeOut_2, b_X8_fill_166, if_neg e1, if_neg e1, show nI i + 1 = nI (i + 1) from nI_1 i]
    cases ht : P.testBit i with
    | false =>
      rw [if_pos (hz.mpr ht), if_neg (fun w => by rw [ho.mp w] at ht; cases ht)]
      obtain ⟨x', z', q1, q2, q3, q4, q5, q6, q7⟩ := ih (i + 1) f7 f8 x z (by omega) (by omega) (by omega) hX
      refine ⟨x', z', q1, q2, q3, q4, fun k hk => q5 k (by omega), fun k hk => q6 k (by omega), fun k h1 h2 => ?_⟩
      by_cases hk : k = i
      · subst hk
        exact Or.inr ⟨q6 k (by omega), q5 (31 + k) (by omega)⟩
      · exact q7 k (by omega) h2
    | true =>
      obtain ⟨hX1, hX2, hX3⟩ := hX
      obtain ⟨v, x1, z1, g1, g2, g3, g4, g5⟩ := law_x (c := x) (m := z) (u := 0) (by omega) hX1 (x 3 i) (nI (sp_far fr i)) (x 1 5)
      obtain ⟨w, hw, ew⟩ := g5 rfl
      have g1' : f_X7_lawGives 0 (x 3 i) (nI (sp_far fr i)) (x 1 5) x = some (v, x1) := g1
      have g2' : f_X8_gives 0 (x 3 i) (nI (sp_far fr i)) (x 1 5) z = some (v, z1) := g2
      have a1 : bv_in (11 + nI i) 371 = true := in_lit (a := 11) (by omega) (by omega)
      have a2 : (11 + nI i).toNatClampNeg = 11 + i := c_lit 11 i (by omega)
      have a3 : bv_in (31 + nI i) 371 = true := in_lit (a := 31) (by omega) (by omega)
      have a4 : (31 + nI i).toNatClampNeg = 31 + i := c_lit 31 i (by omega)
      rw [if_neg (fun w => by rw [hz.mp w] at ht; cases ht), if_pos (ho.mpr ht), if_pos (nb_in (by omega) (by omega)), nI_clamp (by omega), abs_far hfr (by omega), bd1 g1', if_pos a1, bd1 (steps8 (by omega) (by omega) z), a2, hX2 i (by omega), hX3, bd1 g2', if_pos a3, a4]
      dsimp only
      have r7 : ∀ a, a ≠ 4 → a ≠ 43 → a ≠ 46 → bv_up x1 4 i v a = x a := fun a h1 h2 h3 => by rw [bv_up_row h1, g3 a h2 h3]
      have r8 : ∀ a, a ≠ 62 → a ≠ 68 → a ≠ 69 → bv_up z1 62 (31 + i) v a = z a := fun a h1 h2 h3 => by rw [bv_up_row h1, g4 a h2 h3]
      have r62 : ∀ k, k ≠ 31 + i → bv_up z1 62 (31 + i) v 62 k = z 62 k := fun k hk => by rw [bv_up_nn (by omega), g4 62 (by omega) (by omega)]
      have r4 : ∀ k, k ≠ i → bv_up x1 4 i v 4 k = x 4 k := fun k hk => by rw [bv_up_nn (by omega), g3 4 (by omega) (by omega)]
      have hX' : fl_X (bv_up x1 4 i v) (bv_up z1 62 (31 + i) v) := by
        refine ⟨?_, fun p hp => ?_, ?_⟩
        · have e3 : (fun k => bv_up z1 62 (31 + i) v 62 (169 + k)) = fun k => z 62 (169 + k) := funext fun k => r62 _ (by omega)
          rw [e3, r7 10 (by omega) (by omega) (by omega), r7 9 (by omega) (by omega) (by omega)]
          exact hX1
        · rw [r62 _ (by omega), r7 3 (by omega) (by omega) (by omega)]
          exact hX2 p hp
        · rw [r62 _ (by omega), r7 1 (by omega) (by omega) (by omega)]
          exact hX3
      obtain ⟨x', z', q1, q2, q3, q4, q5, q6, q7⟩ := ih (i + 1) f7 f8 _ _ (by omega) (by omega) (by omega) hX'
      refine ⟨x', z', q1, q2, fun a h1 h2 h3 => (q3 a h1 h2 h3).trans (r7 a h1 h2 h3), fun a h1 h2 h3 => (q4 a h1 h2 h3).trans (r8 a h1 h2 h3), fun k hk => (q5 k (by omega)).trans (r62 k (by omega)), fun k hk => (q6 k (by omega)).trans (r4 k (by omega)), fun k h1 h2 => ?_⟩
      by_cases hk : k = i
      · subst hk
        refine Or.inl ⟨w, hw, ?_, ?_⟩
        · rw [q6 k (by omega), bv_up_eq, ew]
        · rw [q5 _ (by omega), bv_up_eq, ew]
      · rcases q7 k (by omega) h2 with w1 | ⟨w1, w2⟩
        · exact Or.inl w1
        · exact Or.inr ⟨w1.trans (r4 k hk), w2.trans (r62 _ (by omega))⟩
/-- a bottle begun -/
def bg7 (b : Nat) (k0 k1 k2 k3 : Int32) (f1 : Int32) (c : bv_Mem) : bv_Mem := bv_up (bv_up (bv_up (bv_up (bv_up (bv_up (bv_up c (14 + b) 0 k0) (14 + b) 1 k1) (14 + b) 2 k2) (14 + b) 3 k3) (14 + b) 4 0) (14 + b) 5 0) 1 4 f1
def bg8 (b : Nat) (k0 k1 k2 k3 : Int32) (f1 : Int32) (m : bv_Mem) : bv_Mem := bv_up (bv_up (bv_up (bv_up (bv_up (bv_up (bv_up m 62 3 f1) 62 (51 + 6 * b + 0) k0) 62 (51 + 6 * b + 1) k1) 62 (51 + 6 * b + 2) k2) 62 (51 + 6 * b + 3) k3) 62 (51 + 6 * b + 4) 0) 62 (51 + 6 * b + 5) 0
theorem bg8_o {b k : Nat} {k0 k1 k2 k3 f1 : Int32} {m : bv_Mem} (h3 : k ≠ 3) (h : k < 51 ∨ 99 ≤ k) (hb : b < 8) : bg8 b k0 k1 k2 k3 f1 m 62 k = m 62 k := by
  unfold bg8
  rw [bv_up_nn (by omega), bv_up_nn (by omega), bv_up_nn (by omega), bv_up_nn (by omega), bv_up_nn (by omega), bv_up_nn (by omega), bv_up_nn (by omega)]
theorem bg8_r {b a : Nat} {k0 k1 k2 k3 f1 : Int32} {m : bv_Mem} (h : a ≠ 62) : bg8 b k0 k1 k2 k3 f1 m a = m a := by
  unfold bg8
  rw [bv_up_row h, bv_up_row h, bv_up_row h, bv_up_row h, bv_up_row h, bv_up_row h, bv_up_row h]
theorem bg7_r {b a : Nat} {k0 k1 k2 k3 f1 : Int32} {m : bv_Mem} (h : a ≠ 14 + b) (h1 : a ≠ 1) : bg7 b k0 k1 k2 k3 f1 m a = m a := by
  unfold bg7
  rw [bv_up_row h1, bv_up_row h, bv_up_row h, bv_up_row h, bv_up_row h, bv_up_row h, bv_up_row h]
theorem up_cm {mi : bv_Mem} (b : Nat) {k k' : Nat} {v v' : Int32} : bv_up (bv_up mi (14 + b) k v) 1 k' v' = bv_up (bv_up mi 1 k' v') (14 + b) k v := by
  funext x j
  unfold bv_up
  by_cases h1 : x = 1 ∧ j = k'
  · rw [if_pos h1, if_neg (by omega), if_pos h1]
  · rw [if_neg h1, if_neg h1]
theorem J_bg {c m : bv_Mem} {b K fr P : Nat} (h : bv_J c m) (hb : b < 8) (hK : K ≤ 69) (hfr : fr < 20) (hP : P < 1048576) : bv_J (bg7 b (nI (K / 10)) (nI (K % 10)) (nI fr) (nI P) (nI (b + 1)) c) (bg8 b (nI (K / 10)) (nI (K % 10)) (nI fr) (nI P) (nI (b + 1)) m) := by
  have sw : bg7 b (nI (K / 10)) (nI (K % 10)) (nI fr) (nI P) (nI (b + 1)) c = bv_up (bv_up (bv_up (bv_up (bv_up (bv_up (bv_up c 1 4 (nI (b + 1))) (14 + b) 0 (nI (K / 10))) (14 + b) 1 (nI (K % 10))) (14 + b) 2 (nI fr)) (14 + b) 3 (nI P)) (14 + b) 4 0) (14 + b) 5 0 := by
    unfold bg7
    rw [up_cm b, up_cm b, up_cm b, up_cm b, up_cm b, up_cm b]
  rw [sw]
  unfold bg8
  have j1 := J_up (v := nI (b + 1)) 0 (a := 1) (s := 4) (k := 3) (by unfold bt_cor; omega) (ok_town (fun q => absurd q (by decide)) (fun _ => ⟨b + 1, by omega, rfl⟩) (fun q => absurd q (by decide)) (fun q => absurd q (by decide))) h
  have j2 := J_up (v := nI (K / 10)) b (cor_b (k := 0) hb (by omega)) (ok_b0 hb (by omega)) j1
  have j3 := J_up (v := nI (K % 10)) b (cor_b (k := 1) hb (by omega)) (ok_b1 hb (by omega)) j2
  have j4 := J_up (v := nI fr) b (cor_b (k := 2) hb (by omega)) (ok_b2 hb hfr) j3
  have j5 := J_up (v := nI P) b (cor_b (k := 3) hb (by omega)) (ok_b3 hb hP) j4
  have j6 := J_up (v := 0) b (cor_b (k := 4) hb (by omega)) (ok_b4 (v := 0) hb (by omega)) j5
  exact J_up (v := 0) b (cor_b (k := 5) hb (by omega)) (ok_b5 (v := 0) hb (by omega)) j6
theorem fill_ok {c m : bv_Mem} {b K fr P i t : Nat} (h : bv_J c m) (hb : b < 8) (eb : c 1 4 = nI b) (hK : K ≤ 69) (hfr : fr < 20) (hP : 1 ≤ P ∧ P ≤ 1048575) (efr : c 5 i = nI fr) (hi : i < 5)
    (h7 : f_X7_fill (nI K) (nI i) (nI t) (nI P) c = (f_X7_takeOut (nI P) (nI fr) c).bind fun z10 =>
              if bv_in (z10 1 4) 8 = true then
              (bv_RF 6 (z10 1 4).toNatClampNeg).bind fun q1 =>
              if bv_isC 74 q1 0 = true then
              (f_X0_startAs q1 (nI K) (nI fr) (nI P) z10).bind fun z11 =>
              some ((((bv_up z11 1 4 ((z11 1 4) + (1 : Int32))) 1 4) - (1 : Int32)), (bv_up z11 1 4 ((z11 1 4) + (1 : Int32))))
              else none
              else none)
    (h8 : f_X8_fill (nI K) (nI i) (nI t) (nI P) m = b_X8_fill_166 400 (nI P) (nI fr) (nI b) 0 (bg8 b (nI (K / 10)) (nI (K % 10)) (nI fr) (nI P) (nI (b + 1)) m)) : bv_out (f_X7_fill (nI K) (nI i) (nI t) (nI P)) (f_X8_fill (nI K) (nI i) (nI t) (nI P)) c m := by
  obtain ⟨r1, r2⟩ := bo_rf b hb
  obtain ⟨d1, d2⟩ := km_dm hK
  have hJ1 := J_bg h hb hK hfr (P := P) (by omega)
  have hX : fl_X c (bg8 b (nI (K / 10)) (nI (K % 10)) (nI fr) (nI P) (nI (b + 1)) m) := by
    refine ⟨?_, fun p hp => ?_, ?_⟩
    · have e3 : (fun k => bg8 b (nI (K / 10)) (nI (K % 10)) (nI fr) (nI P) (nI (b + 1)) m 62 (169 + k)) = fun k => m 62 (169 + k) := funext fun k => bg8_o (by omega) (by omega) hb
      rw [e3]
      exact J_X h (u := 0) (by omega)
    · rw [bg8_o (by omega) (by omega) hb]
      exact RJ_h h hp
    · rw [bg8_o (by omega) (by omega) hb]
      exact RJ_day h
  obtain ⟨x', z', q1, q2, q3, q4, q5, q6, q7⟩ := fl_lp (P := P) (fr := fr) (K := nI b) (by omega) hfr 20 0 400 400 c _ (by omega) (by omega) (by omega) hX
  have q1' : f_X7_takeOut (nI P) (nI fr) c = some x' := q1
  have x14 : x' 1 4 = nI b := by rw [q3 1 (by omega) (by omega) (by omega), eb]
  have sa : f_X0_startAs (14 + b) (nI K) (nI fr) (nI P) x' = some (bv_up (bv_up (bv_up (bv_up (bv_up (bv_up x' (14 + b) 0 (nI (K / 10))) (14 + b) 1 (nI (K % 10))) (14 + b) 2 (nI fr)) (14 + b) 3 (nI P)) (14 + b) 4 0) (14 + b) 5 0) := by
    have t7 : f_X0_turnInto (14 + b) (nI K) x' = some (bv_up (bv_up x' (14 + b) 0 (nI (K / 10))) (14 + b) 1 (nI (K % 10))) := by
      unfold f_X0_turnInto
      rw [if_pos r2, d2, d1]
    unfold f_X0_startAs
    rw [if_pos r2, bd1 t7]
  have e14 : bv_up (bv_up (bv_up (bv_up (bv_up (bv_up x' (14 + b) 0 (nI (K / 10))) (14 + b) 1 (nI (K % 10))) (14 + b) 2 (nI fr)) (14 + b) 3 (nI P)) (14 + b) 4 0) (14 + b) 5 0 1 4 = nI b := by
    rw [bv_up_nn (by omega), bv_up_nn (by omega), bv_up_nn (by omega), bv_up_nn (by omega), bv_up_nn (by omega), bv_up_nn (by omega), x14]
  have eb1 : nI b + 1 = nI (b + 1) := nI_1 b
  have f7 : f_X7_fill (nI K) (nI i) (nI t) (nI P) c = some (nI b, bg7 b (nI (K / 10)) (nI (K % 10)) (nI fr) (nI P) (nI (b + 1)) x') := by
    rw [h7, bd1 q1', x14, if_pos (nb_in (by omega) (by omega)), nI_clamp (by omega), bd1 r1, if_pos r2, bd1 sa, e14, bv_up_eq, eb1, show nI (b + 1) - 1 = nI b from nI_pred b]
    rfl
  have f8 : f_X8_fill (nI K) (nI i) (nI t) (nI P) m = some (nI b, z') := h8.trans q2
  refine ⟨nI b, _, _, f7, f8, ?_, ?_, ?_⟩
  · have hg : ∀ p, 0 ≤ p → p < 20 → (∃ v, v ≤ 99 ∧ x' 4 p = nI v) ∧ z' 62 (31 + p) = x' 4 p := by
      intro p _ hp
      rcases q7 p (by omega) hp with ⟨v, w1, w2, w3⟩ | ⟨w1, w2⟩
      · exact ⟨⟨v, w1, w2⟩, by rw [w3, w2]⟩
      · refine ⟨by rw [w1]; exact WJ_g h hp, ?_⟩
        rw [w2, w1, bg8_o (by omega) (by omega) hb]
        exact RJ_g h hp
    have jm := J_miss (f7 := x' 4) (f8 := z' 62) 20 0 _ _ (by omega) hJ1 hg
    refine jm.same ?_ ?_
    · intro a k ha hs
      have n43 : a ≠ 43 := by rintro rfl; simp [bt_scr] at hs
      have n46 : a ≠ 46 := by rintro rfl; simp [bt_scr] at hs
      by_cases h4 : a = 4
      · subst h4
        rw [bg7_r (by omega) (by omega)]
        by_cases hk : k < 20
        · rw [bv_set_in (by omega)]
        · rw [bv_set_out (by omega), bg7_r (by omega) (by omega), q6 k (by omega)]
      · rw [bv_set_row h4]
        have er := q3 a h4 n43 n46
        unfold bg7 bv_up
        rw [er]
    · intro a k ha hs
      have n68 : a ≠ 68 := by rintro rfl; simp [bt_scr] at hs
      have n69 : a ≠ 69 := by rintro rfl; simp [bt_scr] at hs
      by_cases h62 : a = 62
      · subst h62
        by_cases hk : 31 ≤ k ∧ k < 51
        · rw [bv_set_in (by omega)]
        · rw [bv_set_out (by omega), q5 k (by omega)]
      · rw [bv_set_row h62, q4 a h62 n68 n69]
  · intro a ha
    rw [bg7_r (by omega) (by omega), q3 a (by omega) (by omega) (by omega)]
  · intro a ha
    rw [q4 a (by omega) (by omega) (by omega), bg8_r (by omega)]
theorem S_fill : bv_S_fill bv_I := by
  intro k v s p mi hI
  refine lock (F7 := f_X7_fill k v s p) (F8 := f_X8_fill k v s p) ?_ mi hI
  intro c m h
  obtain ⟨vv, hv, ev⟩ := WJ_vil h
  obtain ⟨f, hf, ef⟩ := WJ_fil h
  have ev8 : m 62 2 = nI vv := (RJ_v h).trans ev
  have ef8 : m 62 3 = nI f := (RJ_f h).trans ef
  by_cases hk : 0 ≤ k ∧ k ≤ 69
  · obtain ⟨K, hK, rfl⟩ := n_of hk (n := 69) rfl
    obtain ⟨d1, d2⟩ := km_dm hK
    have k7 : f_X7_isKindWithNumber (nI K) c = some 1 := by rw [km7, if_pos hk]
    have k8 : f_X8_isKm (nI K) m = some 1 := by rw [km8, if_pos hk]
    by_cases hvl : 0 ≤ v ∧ v ≤ nI vv - 1
    · obtain ⟨i, hi, rfl⟩ := n_of1 hvl (by omega)
      obtain ⟨e, hl⟩ := hm_eq h (i := i) (by omega)
      have e2 : bv_in (6 + nI i) 371 = true := in_lit (a := 6) (by omega) (by omega)
      have e3 : (6 + nI i).toNatClampNeg = 6 + i := c_lit 6 _ (by omega)
      by_cases hs : 0 ≤ s ∧ s ≤ 1
      · obtain ⟨t, ht, rfl⟩ := n_of hs (n := 1) rfl
        have s7 : f_X7_isSide (nI t) c = some 1 := by rw [sd7, if_pos hs]
        have s8 : f_X8_in (nI t) 0 1 m = some 1 := by rw [win8, if_pos hs]
        by_cases hp : 1 ≤ p ∧ p ≤ 1048575
        · obtain ⟨P, hP1, hP, rfl⟩ := n_of0 hp (n := 1048575) rfl
          have p7 : f_X7_isSomePlaces (nI P) c = some 1 := by rw [sp7, if_pos hp]
          have p8 : f_X8_in (nI P) 1 1048575 m = some 1 := by rw [win8, if_pos hp]
          have v7 : f_X1_seenFrom (nI (hm c i)) (nI t) (nI (sp_gone c 0)) c = some (nI (sp_view (c 3) (th7 c 0) (hm c i) t)) := view7g hl ht
          have v8 : f_X8_viewOf (nI (hm c i)) (nI t) m = some (nI (sp_view (c 3) (th7 c 0) (hm c i) t)) := view8n h hl ht
          by_cases hw : nI P &&& (nI (sp_view (c 3) (th7 c 0) (hm c i) t) ^^^ (-1)) = 0
          · by_cases hf8 : f = 8
            · subst hf8
              refine out_err 4 (-1000000004) h ?_ ?_
              · unfold f_X7_fill
                rw [bd1 k7, if_neg (by decide), bd1 (vl7t hv ev hi), if_neg (by decide), bd1 s7, if_neg (by decide), bd1 p7, if_neg (by decide), if_pos (nb_in (by omega) (by omega)), bd1 (gone7 c 0), nI_clamp (by omega), e, bd1 v7, if_pos hw, ef, if_neg (by decide), bd1 (x7_e4 c)]
              · unfold f_X8_fill
                rw [bd1 k8, if_neg (by decide), bd1 (vl8t hv ev8 hi), if_neg (by decide), bd1 s8, if_neg (by decide), bd1 p8, if_neg (by decide), if_pos e2, e3, RJ_at h (by omega), e, bd1 v8, if_pos hw, ef8, if_pos (by decide), bd1 (x8_e4 m)]
            · have hlt : nI f < 8 := nI_lt (b := 8) (by omega) (by omega)
              have hne : ¬ nI f = 8 := fun w => hf8 ((nI_eq (a := f) (b := 8) (by omega) (by omega)).mp w)
              refine fill_ok h (b := f) (by omega) ef hK hl ⟨hP1, hP⟩ e (by omega) ?_ ?_
              · unfold f_X7_fill
                rw [bd1 k7, if_neg (by decide), bd1 (vl7t hv ev hi), if_neg (by decide), bd1 s7, if_neg (by decide), bd1 p7, if_neg (by decide), if_pos (nb_in (by omega) (by omega)), bd1 (gone7 c 0), nI_clamp (by omega), e, bd1 v7, if_pos hw, ef, if_pos hlt]
              · have y0 : ∀ z v, f_X8_lay (nI f) 0 v z = some (bv_up z 62 (51 + 6 * f + 0) v) := fun z v => lay8 (k := 0) (by omega) (by omega) z
                have y1 : ∀ z v, f_X8_lay (nI f) 1 v z = some (bv_up z 62 (51 + 6 * f + 1) v) := fun z v => lay8 (k := 1) (by omega) (by omega) z
                have y2 : ∀ z v, f_X8_lay (nI f) 2 v z = some (bv_up z 62 (51 + 6 * f + 2) v) := fun z v => lay8 (k := 2) (by omega) (by omega) z
                have y3 : ∀ z v, f_X8_lay (nI f) 3 v z = some (bv_up z 62 (51 + 6 * f + 3) v) := fun z v => lay8 (k := 3) (by omega) (by omega) z
                have y4 : ∀ z v, f_X8_lay (nI f) 4 v z = some (bv_up z 62 (51 + 6 * f + 4) v) := fun z v => lay8 (k := 4) (by omega) (by omega) z
                have y5 : ∀ z v, f_X8_lay (nI f) 5 v z = some (bv_up z 62 (51 + 6 * f + 5) v) := fun z v => lay8 (k := 5) (by omega) (by omega) z
                unfold f_X8_fill
                rw [bd1 k8, if_neg (by decide), bd1 (vl8t hv ev8 hi), if_neg (by decide), bd1 s8, if_neg (by decide), bd1 p8, if_neg (by decide), if_pos e2, e3, RJ_at h (by omega), e, bd1 v8, if_pos hw, ef8, if_neg hne, d2, d1, nI_1, bd1 (y0 _ _), bd1 (y1 _ _), bd1 (y2 _ _), bd1 (y3 _ _), bd1 (y4 _ _), bd1 (y5 _ _)]
                rfl
          · refine out_err 3 (-1000000003) h ?_ ?_
            · unfold f_X7_fill
              rw [bd1 k7, if_neg (by decide), bd1 (vl7t hv ev hi), if_neg (by decide), bd1 s7, if_neg (by decide), bd1 p7, if_neg (by decide), if_pos (nb_in (by omega) (by omega)), bd1 (gone7 c 0), nI_clamp (by omega), e, bd1 v7, if_neg hw, bd1 (x7_e3 c)]
            · unfold f_X8_fill
              rw [bd1 k8, if_neg (by decide), bd1 (vl8t hv ev8 hi), if_neg (by decide), bd1 s8, if_neg (by decide), bd1 p8, if_neg (by decide), if_pos e2, e3, RJ_at h (by omega), e, bd1 v8, if_neg hw, bd1 (x8_e3 m)]
        · have p7 : f_X7_isSomePlaces p c = some 0 := by rw [sp7, if_neg hp]
          have p8 : f_X8_in p 1 1048575 m = some 0 := by rw [win8, if_neg hp]
          refine out_err 1 (-1000000001) h ?_ ?_
          · unfold f_X7_fill
            rw [bd1 k7, if_neg (by decide), bd1 (vl7t hv ev hi), if_neg (by decide), bd1 s7, if_neg (by decide), bd1 p7, if_pos rfl, bd1 (x7_e1 c)]
          · unfold f_X8_fill
            rw [bd1 k8, if_neg (by decide), bd1 (vl8t hv ev8 hi), if_neg (by decide), bd1 s8, if_neg (by decide), bd1 p8, if_pos rfl, bd1 (x8_e1 m)]
      · have s7 : f_X7_isSide s c = some 0 := by rw [sd7, if_neg hs]
        have s8 : f_X8_in s 0 1 m = some 0 := by rw [win8, if_neg hs]
        refine out_err 1 (-1000000001) h ?_ ?_
        · unfold f_X7_fill
          rw [bd1 k7, if_neg (by decide), bd1 (vl7t hv ev hi), if_neg (by decide), bd1 s7, if_pos rfl, bd1 (x7_e1 c)]
        · unfold f_X8_fill
          rw [bd1 k8, if_neg (by decide), bd1 (vl8t hv ev8 hi), if_neg (by decide), bd1 s8, if_pos rfl, bd1 (x8_e1 m)]
    · have v7 : f_X7_isVillage v c = some 0 := by rw [vl7, ev, if_neg hvl]
      have v8 : f_X8_isVillage v m = some 0 := by rw [vl8, ev8, if_neg hvl]
      refine out_err 1 (-1000000001) h ?_ ?_
      · unfold f_X7_fill
        rw [bd1 k7, if_neg (by decide), bd1 v7, if_pos rfl, bd1 (x7_e1 c)]
      · unfold f_X8_fill
        rw [bd1 k8, if_neg (by decide), bd1 v8, if_pos rfl, bd1 (x8_e1 m)]
  · have k7 : f_X7_isKindWithNumber k c = some 0 := by rw [km7, if_neg hk]
    have k8 : f_X8_isKm k m = some 0 := by rw [km8, if_neg hk]
    refine out_err 1 (-1000000001) h ?_ ?_
    · unfold f_X7_fill
      rw [bd1 k7, if_pos rfl, bd1 (x7_e1 c)]
    · unfold f_X8_fill
      rw [bd1 k8, if_pos rfl, bd1 (x8_e1 m)]
