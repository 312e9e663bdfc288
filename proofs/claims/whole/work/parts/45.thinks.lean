-- ===== what is only thought =====
/-- z thinks over m: it has m's row kept -/
def bt_T (m z : bv_Mem) : Prop := (∀ a, a ≠ 62 → a ≠ 64 → z a = m a) ∧ (∀ k, k < 371 → z 64 k = m 62 k) ∧ ∀ k, 371 ≤ k → z 62 k = m 62 k
/-- k days behind c -/
def bt_G (f : Nat) (c z : bv_Mem) (k : Nat) : Prop := (∀ p, p < 20 → z 62 (11 + p) = c 3 p) ∧ (∀ i, i < 5 → z 62 (6 + i) = c 5 i) ∧ (∀ i, i < 20 → z 62 (149 + i) = c 13 i) ∧ (∀ p, p < 20 → ∃ g, g ≤ 99 ∧ c 4 p = nI g ∧ z 62 (31 + p) = nI (g - k)) ∧ z 62 3 = nI f ∧ ∀ b, b < 8 → ∃ v, v ≤ 99 ∧ z 62 (51 + 6 * b + 4) = nI v
theorem th_8 (m : bv_Mem) : ∃ z, f_X8_thinks m = some z ∧ bt_T m z ∧ z 62 = m 62 := by
  refine ⟨bv_set m 64 (m 62) 0 371, ?_, ⟨fun a h1 h2 => bv_set_row h2, fun k hk => bv_set_in (by omega), fun k hk => by rw [bv_set_row (by decide)]⟩, bv_set_row (by decide)⟩
  unfold f_X8_thinks
  rw [bd1 (cA8_copyAll_62_64 m)]
theorem pb_8 {m z : bv_Mem} (h : bt_T m z) : ∃ z', f_X8_putsBack z = some z' ∧ ∀ a, a ≠ 64 → z' a = m a := by
  refine ⟨bv_set z 62 (z 64) 0 371, ?_, ?_⟩
  · unfold f_X8_putsBack
    rw [bd1 (cA8_copyAll_64_62 z)]
  · intro a ha
    by_cases h2 : a = 62
    · subst h2
      funext k
      by_cases hk : k < 371
      · rw [bv_set_in (by omega), h.2.1 k hk]
      · rw [bv_set_out (by omega), h.2.2 k (by omega)]
    · rw [bv_set_row h2, h.1 a h2 ha]
theorem T_row {m z z' : bv_Mem} (h : bt_T m z) (h1 : ∀ a, a ≠ 62 → z' a = z a) (h2 : ∀ k, 371 ≤ k → z' 62 k = z 62 k) : bt_T m z' :=
  ⟨fun a g1 g2 => (h1 a g1).trans (h.1 a g1 g2), fun k hk => by rw [h1 64 (by decide)]; exact h.2.1 k hk, fun k hk => (h2 k hk).trans (h.2.2 k hk)⟩
theorem G_0 {f : Nat} {c m z : bv_Mem} (h : bv_J c m) (ef : c 1 4 = nI f) (e : z 62 = m 62) : bt_G f c z 0 := by
  refine ⟨?_, ?_, ?_, ?_, ?_, ?_⟩
  · intro p hp; rw [e]; exact RJ_h h hp
  · intro p hp; rw [e]; exact RJ_at h hp
  · intro p hp; rw [e]; exact RJ_wait h hp
  · intro p hp
    obtain ⟨g, hg, eg⟩ := WJ_g h hp
    exact ⟨g, hg, eg, by rw [e, RJ_g h hp]; exact eg⟩
  · rw [e]; exact (RJ_f h).trans ef
  · rw [e]; exact J_age h
theorem G_day {f k : Nat} {c m z : bv_Mem} (hf : f ≤ 8) (hT : bt_T m z) (h : bt_G f c z k) : ∃ z', f_X8_day z = some z' ∧ bt_T m z' ∧ bt_G f c z' (k + 1) := by
  obtain ⟨h1, h2, h3, h4, h5, h6⟩ := h
  refine ⟨d8 f z, day8 hf h5 h6, T_row hT (fun a ha => d8_r ha) (fun k hk => d8_o (by omega) (by omega) (by omega)), ?_, ?_, ?_, ?_, ?_, d8_age h6⟩
  · intro p hp; rw [d8_o (by omega) (by omega) (by omega)]; exact h1 p hp
  · intro p hp; rw [d8_o (by omega) (by omega) (by omega)]; exact h2 p hp
  · intro p hp; rw [d8_o (by omega) (by omega) (by omega)]; exact h3 p hp
  · intro p hp
    obtain ⟨g, hg, e1, e2⟩ := h4 p hp
    exact ⟨g, hg, e1, by rw [d8_g hp (by omega) e2, Nat.sub_sub]⟩
  · rw [d8_o (by omega) (by omega) (by omega)]; exact h5
theorem G_th {f k p : Nat} {c z : bv_Mem} (hk : k < 1000) (h : bt_G f c z k) (hp : p < 20) : th8 z p = th7 c (nI k) p := by
  obtain ⟨g, hg, e1, e2⟩ := h.2.2.2.1 p hp
  unfold th8 th7
  rw [e1, e2]
  have a1 : (nI (g - k) = 0) ↔ g - k = 0 := nI_eq (b := 0) (by omega) (by omega)
  have a2 : (nI g ≤ nI k) ↔ g ≤ k := nI_leI (by omega) (by omega)
  by_cases hq : g ≤ k
  · rw [decide_eq_true (a1.mpr (by omega)), decide_eq_true (a2.mpr hq)]
  · rw [decide_eq_false (fun q => hq (by have := a1.mp q; omega)), decide_eq_false (fun q => hq (a2.mp q))]
theorem G_miss {f k : Nat} {c z : bv_Mem} (hk : k < 1000) (h : bt_G f c z k) : f_X8_missing z = some (nI (sp_ct (fun p => !(th7 c (nI k) p)) 20 0 0)) := by
  rw [miss8, sp_ct_cg (Q := fun p => !(th7 c (nI k) p)) 20 0 0 (fun j _ h2 => by rw [G_th hk h (by omega)])]
theorem go8 {f N : Nat} {c m : bv_Mem} (hf : f ≤ 8) (hN : N ≤ 100) : ∀ (n i fu : Nat) (z : bv_Mem), i + n = N → n < fu → bt_T m z → bt_G f c z i → ∃ z', b_X8_goesOn_2 fu (nI N) (nI i) z = some z' ∧ bt_T m z' ∧ bt_G f c z' N := by
  intro n
  induction n with
  | zero =>
    intro i fu z hi h8 hT hG
    obtain ⟨fu, rfl⟩ : ∃ k, fu = k + 1 := ⟨fu - 1, by omega⟩
    have e : i = N := by omega
    subst e
    refine ⟨z, ?_, hT, hG⟩
    rw [b_X8_goesOn_2, if_pos (nI_le (by omega) (by omega))]
  | succ n ih =>
    intro i fu z hi h8 hT hG
    obtain ⟨fu, rfl⟩ : ∃ k, fu = k + 1 := ⟨fu - 1, by omega⟩
    have e1 : ¬ nI N ≤ nI i := nI_ge (by omega) (by omega)
    obtain ⟨z1, q1, q2, q3⟩ := G_day hf hT hG
    obtain ⟨z2, k1, k2, k3⟩ := ih (i + 1) fu z1 (by omega) (by omega) q2 q3
    refine ⟨z2, ?_, k2, k3⟩
    rw [b_X8_goesOn_2, if_neg e1, bd1 q1, show nI i + 1 = nI (i + 1) from nI_1 i, k1]
theorem out_back {F7 F8 : bv_F} {c m c' m' z' : bv_Mem} (r : Int32) (h : bv_J c' m') (h7 : F7 c = some (r, c')) (h8 : F8 m = some (r, z')) (hz : ∀ a, a ≠ 64 → z' a = m' a) (hc : ∀ a, 61 ≤ a → c' a = c a) (hm : ∀ a, a < 61 → m' a = m a) : bv_out F7 F8 c m :=
  ⟨r, c', z', h7, h8, h.same (bt_s7.rf _) (fun a k ha hs => by
    rw [hz a]
    rintro rfl
    simp [bt_scr] at hs), hc, fun a ha => by rw [hz a (by omega), hm a ha]⟩
theorem vl7t {c : bv_Mem} {v i : Nat} (hv : v ≤ 5) (ev : c 1 2 = nI v) (hi : i < v) : f_X7_isVillage (nI i) c = some 1 := by
  rw [vl7, ev, if_pos (n_in1 hi (by omega))]
theorem vl8t {c : bv_Mem} {v i : Nat} (hv : v ≤ 5) (ev : c 62 2 = nI v) (hi : i < v) : f_X8_isVillage (nI i) c = some 1 := by
  rw [vl8, ev, if_pos (n_in1 hi (by omega))]
theorem S_view : bv_S_view bv_I := by
  intro p s n mi hI
  refine lock (F7 := f_X7_view p s n) (F8 := f_X8_view p s n) ?_ mi hI
  intro c m h
  obtain ⟨v, hv, ev⟩ := WJ_vil h
  obtain ⟨f, hf, ef⟩ := WJ_fil h
  have ev8 : m 62 2 = nI v := (RJ_v h).trans ev
  by_cases hp : 0 ≤ p ∧ p ≤ nI v - 1
  · obtain ⟨i, hi, rfl⟩ := n_of1 hp (by omega)
    by_cases hs : 0 ≤ s ∧ s ≤ 1
    · obtain ⟨t, ht, rfl⟩ := n_of hs (n := 1) rfl
      have s7 : f_X7_isSide (nI t) c = some 1 := by rw [sd7, if_pos hs]
      have s8 : f_X8_in (nI t) 0 1 m = some 1 := by rw [win8, if_pos hs]
      by_cases hn : 0 ≤ n ∧ n ≤ 100
      · obtain ⟨N, hN, rfl⟩ := n_of hn (n := 100) rfl
        have n7 : f_X7_isWithin (nI N) 0 100 c = some 1 := by rw [win7, if_pos hn]
        have n8 : f_X8_in (nI N) 0 100 m = some 1 := by rw [win8, if_pos hn]
        obtain ⟨z, hz1, hz2, hz3⟩ := th_8 m
        obtain ⟨z1, k1, k2, k3⟩ := go8 hf hN N 0 400 z (by omega) (by omega) hz2 (G_0 h ef hz3)
        have k1' : f_X8_goesOn (nI N) z = some z1 := k1
        obtain ⟨z2, b1, b2⟩ := pb_8 k2
        obtain ⟨e, hl⟩ := hm_eq h (i := i) (by omega)
        have e2 : bv_in (6 + nI i) 371 = true := in_lit (a := 6) (by omega) (by omega)
        have e3 : (6 + nI i).toNatClampNeg = 6 + i := c_lit 6 _ (by omega)
        have hv8 : f_X8_viewOf (nI (hm c i)) (nI t) z1 = some (nI (sp_view (c 3) (th7 c (nI N)) (hm c i) t)) := by
          rw [view8 hl ht, view_cg hl (fun p hp => k3.1 p hp) (fun p hp => G_th (by omega) k3 hp)]
        refine out_back (nI (sp_view (c 3) (th7 c (nI N)) (hm c i) t)) h ?_ ?_ b2 (fun _ _ => rfl) (fun _ _ => rfl)
        · unfold f_X7_view
          rw [bd1 (vl7t hv ev hi), if_neg (by decide), bd1 s7, if_neg (by decide), bd1 n7, if_neg (by decide), if_pos (nb_in (by omega) (by omega)), bd1 (gone7 c _), nI_clamp (by omega), e, bd1 (view7g hl ht)]
        · unfold f_X8_view
          rw [bd1 (vl8t hv ev8 hi), if_neg (by decide), bd1 s8, if_neg (by decide), bd1 n8, if_neg (by decide), bd1 hz1, bd1 k1', if_pos e2, e3, k3.2.1 i (by omega), e, bd1 hv8, bd1 b1]
      · have n7 : f_X7_isWithin n 0 100 c = some 0 := by rw [win7, if_neg hn]
        have n8 : f_X8_in n 0 100 m = some 0 := by rw [win8, if_neg hn]
        refine out_err 1 (-1000000001) h ?_ ?_
        · unfold f_X7_view
          rw [bd1 (vl7t hv ev hi), if_neg (by decide), bd1 s7, if_neg (by decide), bd1 n7, if_pos rfl, bd1 (x7_e1 c)]
        · unfold f_X8_view
          rw [bd1 (vl8t hv ev8 hi), if_neg (by decide), bd1 s8, if_neg (by decide), bd1 n8, if_pos rfl, bd1 (x8_e1 m)]
    · have s7 : f_X7_isSide s c = some 0 := by rw [sd7, if_neg hs]
      have s8 : f_X8_in s 0 1 m = some 0 := by rw [win8, if_neg hs]
      refine out_err 1 (-1000000001) h ?_ ?_
      · unfold f_X7_view
        rw [bd1 (vl7t hv ev hi), if_neg (by decide), bd1 s7, if_pos rfl, bd1 (x7_e1 c)]
      · unfold f_X8_view
        rw [bd1 (vl8t hv ev8 hi), if_neg (by decide), bd1 s8, if_pos rfl, bd1 (x8_e1 m)]
  · have p7 : f_X7_isVillage p c = some 0 := by rw [vl7, ev, if_neg hp]
    have p8 : f_X8_isVillage p m = some 0 := by rw [vl8, ev8, if_neg hp]
    refine out_err 1 (-1000000001) h ?_ ?_
    · unfold f_X7_view
      rw [bd1 p7, if_pos rfl, bd1 (x7_e1 c)]
    · unfold f_X8_view
      rw [bd1 p8, if_pos rfl, bd1 (x8_e1 m)]
-- ===== again =====
theorem J_near {c m z' : bv_Mem} (h : bv_J c m) (hz : ∀ a, a ≠ 64 → z' a = m a) : bv_J c z' := h.same (bt_s7.rf _) (fun a k ha hs => by
    rw [hz a]
    rintro rfl
    simp [bt_scr] at hs)
theorem aga_lp {f i b : Nat} {c m : bv_Mem} (h : bv_J c m) (hf : f ≤ 8) (hi : i < 5) (hb : b < 20) : ∀ (n j f7 f8 : Nat) (z : bv_Mem), j + n = 101 → n < f7 → n < f8 → bt_T m z → bt_G f c z j → ∃ r c' z', b_X7_again_36 f7 (nI i) (nI b) (nI j) c = some (r, c') ∧ b_X8_again_52 f8 (nI b) (nI (hm c i)) (nI j) z = some (r, z') ∧ bv_J c' z' ∧ (∀ a, 61 ≤ a → c' a = c a) ∧ ∀ a, a < 61 → z' a = m a := by
  obtain ⟨e, hl⟩ := hm_eq h hi
  intro n
  induction n with
  | zero =>
    intro j f7 f8 z hj h7 h8 hT hG
    obtain ⟨f7, rfl⟩ : ∃ k, f7 = k + 1 := ⟨f7 - 1, by omega⟩
    obtain ⟨f8, rfl⟩ : ∃ k, f8 = k + 1 := ⟨f8 - 1, by omega⟩
    have ej : j = 101 := by omega
    subst ej
    obtain ⟨z2, b1, b2⟩ := pb_8 hT
    refine ⟨-1000000002, er7 2 c, er8 2 z2, ?_, ?_, J_err 2 (J_near h b2), fun a ha => er7_row (by omega), fun a ha => by rw [er8_row (by omega), b2 a (by omega)]⟩
    · rw [b_X7_again_36, if_pos (by decide), bd1 (x7_e2 c)]
    · rw [b_X8_again_52, if_pos (by decide), b_X8_again_87, bd1 b1, if_neg (by decide), bd1 (x8_e2 z2)]
  | succ n ih =>
    intro j f7 f8 z hj h7 h8 hT hG
    obtain ⟨f7, rfl⟩ : ∃ k, f7 = k + 1 := ⟨f7 - 1, by omega⟩
    obtain ⟨f8, rfl⟩ : ∃ k, f8 = k + 1 := ⟨f8 - 1, by omega⟩
    have e1 : ¬ (100 : Int32) < nI j := nI_nlt (a := 100) (by omega) (by omega)
    have e1' : nI j ≤ 100 := nI_le (b := 100) (by omega) (by omega)
    have e2 : bv_in (11 + nI (hm c i)) 371 = true := in_lit (a := 11) (by omega) (by omega)
    have e3 : (11 + nI (hm c i)).toNatClampNeg = 11 + hm c i := c_lit 11 _ (by omega)
    have s7 : f_X1_sees (nI (hm c i)) (nI b) 0 (nI (sp_gone c (nI j))) c = some (if sp_see (c 3) (th7 c (nI j)) (hm c i) b (c 3 (hm c i)) = true then 1 else 0) := by rw [see7g hl hb, Int32.add_zero]
    have s8 : f_X8_isSeen (nI (hm c i)) (c 3 (hm c i)) (nI b) z = some (if sp_see (c 3) (th7 c (nI j)) (hm c i) b (c 3 (hm c i)) = true then 1 else 0) := by
      rw [see8 hl hb, sp_see_cg (fun p hp => hG.1 p hp) (fun p hp => G_th (by omega) hG hp) hl hb]
    cases hq : sp_see (c 3) (th7 c (nI j)) (hm c i) b (c 3 (hm c i)) with
    | false =>
      rw [hq] at s7 s8
      obtain ⟨z1, q1, q2, q3⟩ := G_day hf hT hG
      obtain ⟨r, c', z', k1, k2, k3⟩ := ih (j + 1) f7 f8 z1 (by omega) (by omega) (by omega) q2 q3
      refine ⟨r, c', z', ?_, ?_, k3⟩
      · rw [b_X7_again_36, if_neg e1, if_pos (nb_in (by omega) (by omega)), bd1 (gone7 c _), nI_clamp (by omega), e, bd1 s7, if_pos (by decide), show nI j + 1 = nI (j + 1) from nI_1 j, k1]
      · rw [b_X8_again_52, if_neg e1, if_pos e2, e3, hG.1 _ hl, bd1 s8, if_pos (by decide), bd1 q1, show nI j + 1 = nI (j + 1) from nI_1 j, k2]
    | true =>
      rw [hq] at s7 s8
      obtain ⟨z2, b1, b2⟩ := pb_8 hT
      refine ⟨nI j, c, z2, ?_, ?_, J_near h b2, fun _ _ => rfl, fun a ha => b2 a (by omega)⟩
      · rw [b_X7_again_36, if_neg e1, if_pos (nb_in (by omega) (by omega)), bd1 (gone7 c _), nI_clamp (by omega), e, bd1 s7, if_neg (by decide)]
      · rw [b_X8_again_52, if_neg e1, if_pos e2, e3, hG.1 _ hl, bd1 s8, if_neg (by decide), b_X8_again_87, bd1 b1, if_pos e1']
theorem S_again : bv_S_again bv_I := by
  intro p q mi hI
  refine lock (F7 := f_X7_again p q) (F8 := f_X8_again p q) ?_ mi hI
  intro c m h
  obtain ⟨v, hv, ev⟩ := WJ_vil h
  obtain ⟨f, hf, ef⟩ := WJ_fil h
  have ev8 : m 62 2 = nI v := (RJ_v h).trans ev
  by_cases hp : 0 ≤ p ∧ p ≤ nI v - 1
  · obtain ⟨i, hi, rfl⟩ := n_of1 hp (by omega)
    obtain ⟨e, hl⟩ := hm_eq h (i := i) (by omega)
    have e2 : bv_in (6 + nI i) 371 = true := in_lit (a := 6) (by omega) (by omega)
    have e3 : (6 + nI i).toNatClampNeg = 6 + i := c_lit 6 _ (by omega)
    by_cases hq : 0 ≤ q ∧ q ≤ 19
    · obtain ⟨b, hb, rfl⟩ := n_of hq (n := 19) rfl
      have p7 : f_X7_isPlace (nI b) c = some 1 := by rw [pl7, if_pos hq]
      have p8 : f_X8_isPlace (nI b) m = some 1 := by rw [pl8, if_pos hq]
      by_cases hab : hm c i = b
      · refine out_err 1 (-1000000001) h ?_ ?_
        · unfold f_X7_again
          rw [bd1 (vl7t hv ev hi), if_neg (by decide), bd1 p7, if_neg (by decide), if_pos (nb_in (by omega) (by omega)), nI_clamp (by omega), e, hab, if_pos rfl, bd1 (x7_e1 c)]
        · unfold f_X8_again
          rw [bd1 (vl8t hv ev8 hi), if_neg (by decide), bd1 p8, if_neg (by decide), if_pos e2, e3, RJ_at h (by omega), e, hab, if_pos rfl, bd1 (x8_e1 m)]
      · have hne : ¬ nI (hm c i) = nI b := fun w => hab ((nI_eq (by omega) (by omega)).mp w)
        obtain ⟨z, hz1, hz2, hz3⟩ := th_8 m
        obtain ⟨r, c', z', k1, k2, k3⟩ := aga_lp h hf (i := i) (b := b) (by omega) (by omega) 101 0 400 400 z (by omega) (by omega) (by omega) hz2 (G_0 h ef hz3)
        refine ⟨r, c', z', ?_, ?_, k3⟩
        · unfold f_X7_again
          rw [bd1 (vl7t hv ev hi), if_neg (by decide), bd1 p7, if_neg (by decide), if_pos (nb_in (by omega) (by omega)), nI_clamp (by omega), e, if_neg hne]
          exact k1
        · unfold f_X8_again
          rw [bd1 (vl8t hv ev8 hi), if_neg (by decide), bd1 p8, if_neg (by decide), if_pos e2, e3, RJ_at h (by omega), e, if_neg hne, bd1 hz1, hz3, RJ_at h (by omega), e]
          exact k2
    · have p7 : f_X7_isPlace q c = some 0 := by rw [pl7, if_neg hq]
      have p8 : f_X8_isPlace q m = some 0 := by rw [pl8, if_neg hq]
      refine out_err 1 (-1000000001) h ?_ ?_
      · unfold f_X7_again
        rw [bd1 (vl7t hv ev hi), if_neg (by decide), bd1 p7, if_pos rfl, bd1 (x7_e1 c)]
      · unfold f_X8_again
        rw [bd1 (vl8t hv ev8 hi), if_neg (by decide), bd1 p8, if_pos rfl, bd1 (x8_e1 m)]
  · have p7 : f_X7_isVillage p c = some 0 := by rw [vl7, ev, if_neg hp]
    have p8 : f_X8_isVillage p m = some 0 := by rw [vl8, ev8, if_neg hp]
    refine out_err 1 (-1000000001) h ?_ ?_
    · unfold f_X7_again
      rw [bd1 p7, if_pos rfl, bd1 (x7_e1 c)]
    · unfold f_X8_again
      rw [bd1 p8, if_pos rfl, bd1 (x8_e1 m)]
-- ===== check =====
theorem chk_lp {f N : Nat} {c m : bv_Mem} (hf : f ≤ 8) (hN : N ≤ 20) : ∀ (n j f7 f8 : Nat) (z : bv_Mem), j + n = N → n < f7 → n + 1 < f8 → bt_T m z → bt_G f c z j → ∃ r z', b_X7_check_18 f7 (nI N) (nI j) c = some (r, c) ∧ b_X8_check_22 f8 (nI N) 0 (nI j) z = some (r, z') ∧ ∀ a, a ≠ 64 → z' a = m a := by
  intro n
  induction n with
  | zero =>
    intro j f7 f8 z hj h7 h8 hT hG
    obtain ⟨f7, rfl⟩ : ∃ k, f7 = k + 1 := ⟨f7 - 1, by omega⟩
    obtain ⟨f8, rfl⟩ : ∃ k, f8 = k + 1 := ⟨f8 - 1, by omega⟩
    have e1 : nI N ≤ nI j := nI_le (by omega) (by omega)
    obtain ⟨z2, b1, b2⟩ := pb_8 hT
    refine ⟨0, z2, ?_, ?_, b2⟩
    · rw [b_X7_check_18, if_pos e1]
    · rw [b_X8_check_22, if_pos e1, bd1 b1]
  | succ n ih =>
    intro j f7 f8 z hj h7 h8 hT hG
    obtain ⟨f7, rfl⟩ : ∃ k, f7 = k + 1 := ⟨f7 - 1, by omega⟩
    obtain ⟨f8, rfl⟩ : ∃ k, f8 = k + 1 := ⟨f8 - 1, by omega⟩
    have e1 : ¬ nI N ≤ nI j := nI_ge (by omega) (by omega)
    have e2 : bv_in (149 + nI j) 371 = true := in_lit (a := 149) (by omega) (by omega)
    have e3 : (149 + nI j).toNatClampNeg = 149 + j := c_lit 149 _ (by omega)
    obtain ⟨z1, q1, q2, q3⟩ := G_day hf hT hG
    have m8 := G_miss (by omega) q3
    have m7 := miss7 c (nI (j + 1))
    by_cases hq : c 13 j = nI (sp_ct (fun p => !(th7 c (nI (j + 1)) p)) 20 0 0)
    · obtain ⟨r, z', k1, k2, k3⟩ := ih (j + 1) f7 f8 z1 (by omega) (by omega) (by omega) q2 q3
      refine ⟨r, z', ?_, ?_, k3⟩
      · rw [b_X7_check_18, if_neg e1, if_pos (nb_in (by omega) (by omega)), show nI j + 1 = nI (j + 1) from nI_1 j, bd1 m7, nI_clamp (by omega), if_pos hq, k1]
      · rw [b_X8_check_22, if_neg e1, if_pos rfl, bd1 q1, if_pos e2, bd1 m8, e3, q3.2.2.1 j (by omega), if_pos hq, show nI j + 1 = nI (j + 1) from nI_1 j, k2]
    · obtain ⟨z2, b1, b2⟩ := pb_8 q2
      refine ⟨1 + nI j, z2, ?_, ?_, b2⟩
      · rw [b_X7_check_18, if_neg e1, if_pos (nb_in (by omega) (by omega)), show nI j + 1 = nI (j + 1) from nI_1 j, bd1 m7, nI_clamp (by omega), if_neg hq]
      · obtain ⟨f8, rfl⟩ : ∃ k, f8 = k + 1 := ⟨f8 - 1, by omega⟩
        have hne : ¬ (1 : Int32) + nI j = 0 := by
          have : (1 : Int32) + nI j = nI (1 + j) := nI_add 1 j
          rw [this]
          exact nI_ne0 (by omega) (by omega)
        rw [b_X8_check_22, if_neg e1, if_pos rfl, bd1 q1, if_pos e2, bd1 m8, e3, q3.2.2.1 j (by omega), if_neg hq, b_X8_check_22, show nI j + 1 = nI (j + 1) from nI_1 j]
        by_cases hz : nI N ≤ nI (j + 1)
        · rw [if_pos hz, bd1 b1]
        · rw [if_neg hz, if_neg hne, bd1 b1]
theorem S_check : bv_S_check bv_I := by
  intro mi hI
  refine lock (F7 := f_X7_check) (F8 := f_X8_check) ?_ mi hI
  intro c m h
  obtain ⟨w, hw, ew⟩ := WJ_wai h
  obtain ⟨f, hf, ef⟩ := WJ_fil h
  have j1 : bv_J (bv_up c 1 11 0) (bv_up m 62 5 0) := J_up 0 (by unfold bt_cor; omega) (ok_town (fun q => absurd q (by decide)) (fun q => absurd q (by decide)) (fun q => absurd q (by decide)) (fun _ => ⟨0, by omega, rfl⟩)) h
  obtain ⟨z, hz1, hz2, hz3⟩ := th_8 (bv_up m 62 5 0)
  have ef' : bv_up c 1 11 0 1 4 = nI f := by rw [bv_up_nn (by omega)]; exact ef
  obtain ⟨r, z', k1, k2, k3⟩ := chk_lp hf hw w 0 400 400 z (by omega) (by omega) (by omega) hz2 (G_0 j1 ef' hz3)
  refine out_back r j1 ?_ ?_ k3 (fun a ha => bv_up_row (by omega)) (fun a ha => bv_up_row (by omega))
  · unfold f_X7_check
    rw [ew]
    exact k1
  · unfold f_X8_check
    rw [bd1 hz1, RJ_w h, ew]
    exact k2
-- ===== thief =====
theorem thf_a {P : Nat} (hP : P < 2 ^ 20) {m : bv_Mem} : ∀ (n i fu : Nat) (z : bv_Mem), i + n = 20 → n < fu → (∀ k, i ≤ k → k < 20 → z 62 (31 + k) = m 62 (31 + k)) → b_X8_thief_23 fu (nI P) (nI i) z = b_X8_thief_70 400 (nI P) 0 0 (bv_set z 62 (fun k => if P.testBit (k - 31) = true then 0 else m 62 k) (31 + i) 51) := by
  intro n
  induction n with
  | zero =>
    intro i fu z hi hf he
    obtain ⟨fu, rfl⟩ : ∃ k, fu = k + 1 := ⟨fu - 1, by omega⟩
    have e : i = 20 := by omega
    subst e
    rw [b_X8_thief_23, if_pos (by decide), bv_set_nil (by omega)]
  | succ n ih =>
    intro i fu z hi hf he
    obtain ⟨fu, rfl⟩ : ∃ k, fu = k + 1 := ⟨fu - 1, by omega⟩
    have e1 : ¬ (20 : Int32) ≤ nI i := nI_ge (b := 20) (by omega) (by omega)
    have e9 : bv_in (31 + nI i) 371 = true := in_lit (a := 31) (by omega) (by omega)
    have e10 : (31 + nI i).toNatClampNeg = 31 + i := c_lit 31 i (by omega)
    have hs := bv_set_up (mi := z) (a := 62) (lo := 31 + i) (hi := 51) (f := fun k => if P.testBit (k - 31) = true then 0 else m 62 k) (by omega)
    have hb := b_o (X := P) (j := i) (by omega) (by omega)
    rw [← hs, Nat.add_sub_cancel_left]
    cases ht : P.testBit i with
    | true =>
      rw [b_X8_thief_23, if_neg e1, if_pos (hb.mpr ht), if_pos e9, e10, show nI i + 1 = nI (i + 1) from nI_1 i, ih (i + 1) fu _ (by omega) (by omega) (fun k h1 h2 => by rw [bv_up_nn (by omega)]; exact he k (by omega) h2)]
      rfl
    | false =>
      rw [b_X8_thief_23, if_neg e1, if_neg (fun q => by rw [hb.mp q] at ht; cases ht), if_pos e9, e10, he i (by omega) (by omega), show nI i + 1 = nI (i + 1) from nI_1 i, ih (i + 1) fu _ (by omega) (by omega) (fun k h1 h2 => by rw [bv_up_nn (by omega)]; exact he k (by omega) h2)]
      rfl
theorem thf_lp {P : Nat} {c m : bv_Mem} {G : Nat} (hG : G < 2 ^ 20) : ∀ (n i f7 f8 : Nat) (X : Int32) (z : bv_Mem), i + n = 20 → n < f7 → n < f8 → bt_T m z → (∀ p, p < 20 → z 62 (11 + p) = c 3 p) → (∀ p, p < 20 → th8 z p = !(G.testBit p)) → ∃ r z', b_X7_thief_34 f7 (nI P) (nI G) X (nI i) c = some (r, c) ∧ b_X8_thief_70 f8 (nI P) X (nI i) z = some (r, z') ∧ ∀ a, a ≠ 64 → z' a = m a := by
  intro n
  induction n with
  | zero =>
    intro i f7 f8 X z hi h7 h8 hT _ _
    obtain ⟨f7, rfl⟩ : ∃ k, f7 = k + 1 := ⟨f7 - 1, by omega⟩
    obtain ⟨f8, rfl⟩ : ∃ k, f8 = k + 1 := ⟨f8 - 1, by omega⟩
    have e : i = 20 := by omega
    subst e
    obtain ⟨z2, b1, b2⟩ := pb_8 hT
    refine ⟨X, z2, ?_, ?_, b2⟩
    · rw [b_X7_thief_34, if_pos (by decide)]
    · rw [b_X8_thief_70, if_pos (by decide), bd1 b1]
  | succ n ih =>
    intro i f7 f8 X z hi h7 h8 hT hh ht
    obtain ⟨f7, rfl⟩ : ∃ k, f7 = k + 1 := ⟨f7 - 1, by omega⟩
    obtain ⟨f8, rfl⟩ : ∃ k, f8 = k + 1 := ⟨f8 - 1, by omega⟩
    have e1 : ¬ (20 : Int32) ≤ nI i := nI_ge (b := 20) (by omega) (by omega)
    have v0 : f_X1_seenFrom (nI i) 0 (nI G) c = some (nI (sp_view (c 3) (fun p => !(G.testBit p)) i 0)) := view7 (s := 0) (by omega) hG (by omega)
    have v1 : f_X1_seenFrom (nI i) 1 (nI G) c = some (nI (sp_view (c 3) (fun p => !(G.testBit p)) i 1)) := view7 (s := 1) (by omega) hG (by omega)
    have u : ∀ s, sp_view (fun q => z 62 (11 + q)) (th8 z) i s = sp_view (c 3) (fun p => !(G.testBit p)) i s := fun s => view_cg (by omega) hh ht
    have u0 : f_X8_viewOf (nI i) 0 z = some (nI (sp_view (c 3) (fun p => !(G.testBit p)) i 0)) := by
      rw [← u 0]
      exact view8 (s := 0) (by omega) (by omega)
    have u1 : f_X8_viewOf (nI i) 1 z = some (nI (sp_view (c 3) (fun p => !(G.testBit p)) i 1)) := by
      rw [← u 1]
      exact view8 (s := 1) (by omega) (by omega)
    rw [b_X7_thief_34, b_X8_thief_70, if_neg e1, if_neg e1, bd1 v0, bd1 v1, bd1 u0, b_X7_thief_91, b_X8_thief_103, Int32.or_zero, show nI i + 1 = nI (i + 1) from nI_1 i]
    by_cases w0 : nI P &&& (nI (sp_view (c 3) (fun p => !(G.testBit p)) i 0) ^^^ (-1)) = 0
    · rw [if_pos w0, if_pos w0]
      exact ih (i + 1) f7 f8 _ z (by omega) (by omega) (by omega) hT hh ht
    · rw [if_neg w0, if_neg w0, bd1 u1]
      by_cases w1 : nI P &&& (nI (sp_view (c 3) (fun p => !(G.testBit p)) i 1) ^^^ (-1)) = 0
      · rw [if_pos w1, if_pos w1]
        exact ih (i + 1) f7 f8 _ z (by omega) (by omega) (by omega) hT hh ht
      · rw [if_neg w1, if_neg w1]
        exact ih (i + 1) f7 f8 _ z (by omega) (by omega) (by omega) hT hh ht
/-- what is in one set and not in the other -/
theorem nI_andn (A B : Nat) (hA : A < 2 ^ 20) : ∃ G, G < 2 ^ 20 ∧ nI A &&& (nI B ^^^ (-1)) = nI G ∧ ∀ p, p < 20 → G.testBit p = (A.testBit p && !(B.testBit p)) := by
  refine ⟨A &&& ((B ^^^ (2 ^ 32 - 1)) % 2 ^ 20), ?_, ?_, ?_⟩
  · exact Nat.lt_of_le_of_lt Nat.and_le_left hA
  · apply Int32.toBitVec_inj.mp
    apply BitVec.eq_of_toNat_eq
    show ((nI A).toBitVec &&& ((nI B).toBitVec ^^^ (-1 : Int32).toBitVec)).toNat = _
    rw [BitVec.toNat_and, BitVec.toNat_xor, nI_bv, nI_bv, nI_bv]
    have e : ((-1 : Int32).toBitVec).toNat = 2 ^ 32 - 1 := by decide
    rw [e]
    apply Nat.eq_of_testBit_eq
    intro j
    simp only [Nat.testBit_and, Nat.testBit_xor, Nat.testBit_mod_two_pow, Nat.testBit_two_pow_sub_one]
    by_cases hj : j < 20
    · have h32 : j < 32 := by omega
      simp [hj, h32]
    · have : A.testBit j = false := Nat.testBit_lt_two_pow (Nat.lt_of_lt_of_le hA (Nat.pow_le_pow_right (by omega) (by omega)))
      simp [this]
  · intro p hp
    have h32 : p < 32 := by omega
    rw [Nat.testBit_and, Nat.testBit_mod_two_pow, Nat.testBit_xor, Nat.testBit_two_pow_sub_one, decide_eq_true hp, decide_eq_true h32, Bool.true_and, Bool.xor_true]
theorem S_thief : bv_S_thief bv_I := by
  intro p mi hI
  refine lock (F7 := f_X7_thief p) (F8 := f_X8_thief p) ?_ mi hI
  intro c m h
  by_cases hp : 1 ≤ p ∧ p ≤ 1048575
  · obtain ⟨P, hP1, hP, rfl⟩ := n_of0 hp (n := 1048575) rfl
    have w7 : f_X7_isSomePlaces (nI P) c = some 1 := by rw [sp7, if_pos hp]
    have w8 : f_X8_in (nI P) 1 1048575 m = some 1 := by rw [win8, if_pos hp]
    obtain ⟨G, hG, eG, bG⟩ := nI_andn (sp_gone c 0) P (gone_lt c 0)
    obtain ⟨z, hz1, hz2, hz3⟩ := th_8 m
    have a := thf_a (P := P) (m := m) (by omega) 20 0 400 z (by omega) (by omega) (fun k _ hk => by rw [hz3])
    obtain ⟨r, z', k1, k2, k3⟩ := thf_lp (P := P) (c := c) (m := m) hG 20 0 400 400 0 (bv_set z 62 (fun k => if P.testBit (k - 31) = true then 0 else m 62 k) (31 + 0) 51) (by omega) (by omega) (by omega) (T_row hz2 (fun a ha => bv_set_row ha) (fun k hk => bv_set_out (by omega))) (fun q hq => by rw [bv_set_out (by omega), hz3, RJ_h h hq]) (fun q hq => by
      have g := gone_bit (c := c) (v := 0) hq
      have t := th_eq h hq
      rw [bG q hq, g]
      unfold th8 at t ⊢
      unfold th7 at t
      rw [bv_set_in (by omega), Nat.add_sub_cancel_left]
      cases P.testBit q with
      | true => simp
      | false =>
        rw [if_neg (by decide), t]
        simp)
    refine out_back r h ?_ ?_ k3 (fun _ _ => rfl) (fun _ _ => rfl)
    · unfold f_X7_thief
      rw [bd1 w7, if_neg (by decide), bd1 (gone7 c 0), eG]
      exact k1
    · unfold f_X8_thief
      rw [bd1 w8, if_neg (by decide), bd1 hz1]
      exact a.trans k2
  · have w7 : f_X7_isSomePlaces p c = some 0 := by rw [sp7, if_neg hp]
    have w8 : f_X8_in p 1 1048575 m = some 0 := by rw [win8, if_neg hp]
    refine out_err 1 (-1000000001) h ?_ ?_
    · unfold f_X7_thief
      rw [bd1 w7, if_pos rfl, bd1 (x7_e1 c)]
    · unfold f_X8_thief
      rw [bd1 w8, if_pos rfl, bd1 (x8_e1 m)]
