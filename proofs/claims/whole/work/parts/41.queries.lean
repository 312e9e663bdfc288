theorem see7g {c : bv_Mem} {a b : Nat} {up v : Int32} (ha : a < 20) (hb : b < 20) : f_X1_sees (nI a) (nI b) up (nI (sp_gone c v)) c = some (if sp_see (c 3) (th7 c v) a b (c 3 a + up) = true then 1 else 0) := by
  rw [see7 ha hb (gone_lt c v), sp_see_cg (h' := c 3) (th' := th7 c v) (fun _ _ => rfl) (fun p hp => by rw [gone_bit hp, Bool.not_not]; rfl) ha hb]
theorem see8n {c m : bv_Mem} (h : bv_J c m) {a b : Nat} {hi : Int32} (ha : a < 20) (hb : b < 20) : f_X8_isSeen (nI a) hi (nI b) m = some (if sp_see (c 3) (th7 c 0) a b hi = true then 1 else 0) := by
  rw [see8 ha hb, sp_see_cg (h' := c 3) (th' := th7 c 0) (fun p hp => RJ_h h hp) (fun p hp => th_eq h hp) ha hb]
theorem view8n {c m : bv_Mem} (h : bv_J c m) {a s : Nat} (ha : a < 20) (hs : s ≤ 1) : f_X8_viewOf (nI a) (nI s) m = some (nI (sp_view (c 3) (th7 c 0) a s)) := by
  rw [view8 ha hs, view_now h ha]
/-- where a village is -/
def hm (c : bv_Mem) (i : Nat) : Nat := (c 5 i).toNatClampNeg
theorem hm_eq {c m : bv_Mem} (h : bv_J c m) {i : Nat} (hi : i < 5) : c 5 i = nI (hm c i) ∧ hm c i < 20 := by
  obtain ⟨v, hv, e⟩ := WJ_home h hi
  unfold hm
  rw [e, nI_clamp (by omega)]
  exact ⟨rfl, hv⟩
-- ===== tower =====
theorem tow_lp {c m : bv_Mem} (h : bv_J c m) {a b : Nat} (ha : a < 20) (hb : b < 20) : ∀ (n i f7 f8 : Nat), i + n = 41 → n < f7 → n < f8 → bv_out (b_X7_tower_40 f7 (nI a) (nI b) (nI (sp_gone c 0)) (nI i)) (b_X8_tower_28 f8 (nI a) (nI b) (nI i)) c m := by
  intro n
  induction n with
  | zero =>
    intro i f7 f8 hi h7 h8
    obtain ⟨f7, rfl⟩ : ∃ k, f7 = k + 1 := ⟨f7 - 1, by omega⟩
    obtain ⟨f8, rfl⟩ : ∃ k, f8 = k + 1 := ⟨f8 - 1, by omega⟩
    have e : i = 41 := by omega
    subst e
    refine out_err 2 (-1000000002) h ?_ ?_
    · rw [b_X7_tower_40, if_pos (by decide), x7_e2]; rfl
    · rw [b_X8_tower_28, if_pos (by decide), x8_e2]; rfl
  | succ n ih =>
    intro i f7 f8 hi h7 h8
    obtain ⟨f7, rfl⟩ : ∃ k, f7 = k + 1 := ⟨f7 - 1, by omega⟩
    obtain ⟨f8, rfl⟩ : ∃ k, f8 = k + 1 := ⟨f8 - 1, by omega⟩
    have e1 : ¬ (40 : Int32) < nI i := nI_nlt (b := i) (a := 40) (by omega) (by omega)
    have e2 : bv_in (11 + nI a) 371 = true := in_lit (a := 11) (by omega) (by omega)
    have e3 : (11 + nI a).toNatClampNeg = 11 + a := c_lit 11 _ (by omega)
    obtain ⟨r, c', m', q1, q2, q3⟩ := ih (i + 1) f7 f8 (by omega) (by omega) (by omega)
    cases hs : sp_see (c 3) (th7 c 0) a b (c 3 a + nI i) with
    | false =>
      refine ⟨r, c', m', ?_, ?_, q3⟩
      · rw [b_X7_tower_40, if_neg e1, see7g ha hb, hs]
        simp only [Option.bind_some]
        rw [if_pos (by decide), show nI i + 1 = nI (i + 1) from nI_1 i]
        exact q1
      · rw [b_X8_tower_28, if_neg e1, if_pos e2, e3, RJ_h h ha, see8n h ha hb, hs]
        simp only [Option.bind_some]
        rw [if_pos (by decide), show nI i + 1 = nI (i + 1) from nI_1 i]
        exact q2
    | true =>
      refine out_ro (nI i) h ?_ ?_
      · rw [b_X7_tower_40, if_neg e1, see7g ha hb, hs]
        simp
      · rw [b_X8_tower_28, if_neg e1, if_pos e2, e3, RJ_h h ha, see8n h ha hb, hs]
        simp
theorem S_tower : bv_S_tower bv_I := by
  intro p q mi hI
  refine lock (F7 := f_X7_tower p q) (F8 := f_X8_tower p q) ?_ mi hI
  intro c m h
  by_cases hp : 0 ≤ p ∧ p ≤ 19
  · obtain ⟨a, ha, rfl⟩ := n_of hp (n := 19) rfl
    by_cases hq : 0 ≤ q ∧ q ≤ 19
    · obtain ⟨b, hb, rfl⟩ := n_of hq (n := 19) rfl
      by_cases hab : a = b
      · subst hab
        refine out_err 1 (-1000000001) h ?_ ?_
        · simp [f_X7_tower, pl7, hp, x7_e1]
        · simp [f_X8_tower, pl8, hp, x8_e1]
      · have e : ¬ nI a = nI b := fun z => hab ((nI_eq (by omega) (by omega)).mp z)
        obtain ⟨r, c', m', q1, q2, q3⟩ := tow_lp h (a := a) (b := b) (by omega) (by omega) 41 0 400 400 (by omega) (by omega) (by omega)
        refine ⟨r, c', m', ?_, ?_, q3⟩
        · rw [← q1]
          simp [f_X7_tower, pl7, hp, hq, e, gone7, nI_0]
        · rw [← q2]
          simp [f_X8_tower, pl8, hp, hq, e, nI_0]
    · refine out_err 1 (-1000000001) h ?_ ?_
      · simp [f_X7_tower, pl7, hp, hq, x7_e1]
      · simp [f_X8_tower, pl8, hp, hq, x8_e1]
  · refine out_err 1 (-1000000001) h ?_ ?_
    · simp [f_X7_tower, pl7, hp, x7_e1]
    · simp [f_X8_tower, pl8, hp, x8_e1]
-- ===== mutual =====
def mu_P (c : bv_Mem) (i j : Nat) : Bool := sp_see (c 3) (th7 c 0) (hm c i) (hm c j) (c 3 (hm c i)) && sp_see (c 3) (th7 c 0) (hm c j) (hm c i) (c 3 (hm c j))
theorem sees8 {c m : bv_Mem} (h : bv_J c m) {i b : Nat} (hi : i < 5) (hb : b < 20) : f_X8_sees (nI i) (nI b) m = some (if sp_see (c 3) (th7 c 0) (hm c i) b (c 3 (hm c i)) = true then 1 else 0) := by
  obtain ⟨e, hl⟩ := hm_eq h hi
  have e2 : bv_in (6 + nI i) 371 = true := in_lit (a := 6) (by omega) (by omega)
  have e3 : (6 + nI i).toNatClampNeg = 6 + i := c_lit 6 _ (by omega)
  have e4 : bv_in (11 + nI (hm c i)) 371 = true := in_lit (a := 11) (by omega) (by omega)
  have e5 : (11 + nI (hm c i)).toNatClampNeg = 11 + hm c i := c_lit 11 _ (by omega)
  unfold f_X8_sees
  rw [if_pos e2, e3, RJ_at h hi, e, if_pos e4, e5, RJ_h h hl, see8n h hl hb]
  simp only [Option.bind_some]
  cases sp_see (c 3) (th7 c 0) (hm c i) b (c 3 (hm c i)) <;> simp
theorem mu7_in {c m : bv_Mem} (h : bv_J c m) {v i : Nat} (hv : v ≤ 5) (ev : c 1 2 = nI v) (hi : i < v) (k : Int32 → Int32 → Int32 → Option Int32) : ∀ (n j X fu : Nat), j + n = v → n < fu → b_X7_mutual_32 c k fu (nI (sp_gone c 0)) (nI X) (nI i) (nI j) = k (nI (sp_gone c 0)) (nI (sp_ct (mu_P c i) n j X)) (nI (i + 1)) := by
  intro n
  induction n with
  | zero =>
    intro j X fu hj hf
    obtain ⟨fu, rfl⟩ : ∃ k, fu = k + 1 := ⟨fu - 1, by omega⟩
    rw [b_X7_mutual_32, ev, if_pos (nI_le (by omega) (by omega)), sp_ct, show nI i + 1 = nI (i + 1) from nI_1 i]
  | succ n ih =>
    intro j X fu hj hf
    obtain ⟨fu, rfl⟩ : ∃ k, fu = k + 1 := ⟨fu - 1, by omega⟩
    have e1 : ¬ nI v ≤ nI j := nI_ge (by omega) (by omega)
    have e2 : bv_in (nI i) 5 = true := nb_in (by omega) (by omega)
    have e3 : bv_in (nI j) 5 = true := nb_in (by omega) (by omega)
    obtain ⟨q1, q2⟩ := hm_eq h (i := i) (by omega)
    obtain ⟨q3, q4⟩ := hm_eq h (i := j) (by omega)
    rw [b_X7_mutual_32, ev, if_neg e1, if_pos e2, if_pos e3, nI_clamp (by omega), nI_clamp (by omega), q1, q3, see7g q2 q4, see7g q4 q2, Int32.add_zero, Int32.add_zero, show nI j + 1 = nI (j + 1) from nI_1 j, show nI X + 1 = nI (X + 1) from nI_1 X, sp_ct]
    simp only [Option.bind_some]
    have hP : mu_P c i j = (sp_see (c 3) (th7 c 0) (hm c i) (hm c j) (c 3 (hm c i)) && sp_see (c 3) (th7 c 0) (hm c j) (hm c i) (c 3 (hm c j))) := rfl
    rw [hP]
    cases h1 : sp_see (c 3) (th7 c 0) (hm c i) (hm c j) (c 3 (hm c i)) with
    | false =>
      rw [if_pos (by decide), ih (j + 1) X fu (by omega) (by omega)]
      simp
    | true =>
      rw [if_neg (by decide)]
      cases h2 : sp_see (c 3) (th7 c 0) (hm c j) (hm c i) (c 3 (hm c j)) with
      | false =>
        rw [if_pos (by decide), ih (j + 1) X fu (by omega) (by omega)]
        simp
      | true =>
        rw [if_neg (by decide), ih (j + 1) (X + 1) fu (by omega) (by omega)]
        simp
theorem mu8_in {c m : bv_Mem} (h : bv_J c m) {v i : Nat} (hv : v ≤ 5) (ev : c 1 2 = nI v) (hi : i < v) (k : Int32 → Int32 → Option Int32) : ∀ (n j X fu : Nat), j + n = v → n < fu → b_X8_mutual_18 m k fu (nI X) (nI i) (nI j) = k (nI (sp_ct (mu_P c i) n j X)) (nI (i + 1)) := by
  have ev8 : m 62 2 = nI v := (RJ_v h).trans ev
  intro n
  induction n with
  | zero =>
    intro j X fu hj hf
    obtain ⟨fu, rfl⟩ : ∃ k, fu = k + 1 := ⟨fu - 1, by omega⟩
    rw [b_X8_mutual_18, ev8, if_pos (nI_le (by omega) (by omega)), sp_ct, show nI i + 1 = nI (i + 1) from nI_1 i]
  | succ n ih =>
    intro j X fu hj hf
    obtain ⟨fu, rfl⟩ : ∃ k, fu = k + 1 := ⟨fu - 1, by omega⟩
    have e1 : ¬ nI v ≤ nI j := nI_ge (by omega) (by omega)
    have e2 : bv_in (6 + nI j) 371 = true := in_lit (a := 6) (by omega) (by omega)
    have e3 : (6 + nI j).toNatClampNeg = 6 + j := c_lit 6 _ (by omega)
    have e4 : bv_in (6 + nI i) 371 = true := in_lit (a := 6) (by omega) (by omega)
    have e5 : (6 + nI i).toNatClampNeg = 6 + i := c_lit 6 _ (by omega)
    obtain ⟨q1, q2⟩ := hm_eq h (i := i) (by omega)
    obtain ⟨q3, q4⟩ := hm_eq h (i := j) (by omega)
    rw [b_X8_mutual_18, ev8, if_neg e1, if_pos e2, e3, RJ_at h (by omega), q3, sees8 h (by omega) q4, if_pos e4, e5, RJ_at h (by omega), q1, sees8 h (by omega) q2, Int32.add_zero, show nI j + 1 = nI (j + 1) from nI_1 j, show nI X + 1 = nI (X + 1) from nI_1 X, sp_ct]
    simp only [Option.bind_some]
    have hP : mu_P c i j = (sp_see (c 3) (th7 c 0) (hm c i) (hm c j) (c 3 (hm c i)) && sp_see (c 3) (th7 c 0) (hm c j) (hm c i) (c 3 (hm c j))) := rfl
    rw [hP]
    cases h1 : sp_see (c 3) (th7 c 0) (hm c i) (hm c j) (c 3 (hm c i)) with
    | false =>
      rw [if_pos (by decide), ih (j + 1) X fu (by omega) (by omega)]
      simp
    | true =>
      rw [if_neg (by decide)]
      cases h2 : sp_see (c 3) (th7 c 0) (hm c j) (hm c i) (c 3 (hm c j)) with
      | false =>
        rw [if_pos (by decide), ih (j + 1) X fu (by omega) (by omega)]
        simp
      | true =>
        rw [if_neg (by decide), ih (j + 1) (X + 1) fu (by omega) (by omega)]
        simp
theorem mu_lp {c m : bv_Mem} (h : bv_J c m) {v : Nat} (hv : v ≤ 5) (ev : c 1 2 = nI v) : ∀ (n i X f7 f8 : Nat), i + n = v → n < f7 → n < f8 → ∃ r, b_X7_mutual_16 c f7 (nI (sp_gone c 0)) (nI X) (nI i) = some r ∧ b_X8_mutual_4 m f8 (nI X) (nI i) = some r := by
  have ev8 : m 62 2 = nI v := (RJ_v h).trans ev
  intro n
  induction n with
  | zero =>
    intro i X f7 f8 hi h7 h8
    obtain ⟨f7, rfl⟩ : ∃ k, f7 = k + 1 := ⟨f7 - 1, by omega⟩
    obtain ⟨f8, rfl⟩ : ∃ k, f8 = k + 1 := ⟨f8 - 1, by omega⟩
    rw [b_X7_mutual_16, b_X8_mutual_4, ev, ev8, if_pos (nI_le (by omega) (by omega)), if_pos (nI_le (by omega) (by omega))]
    exact ⟨_, rfl, rfl⟩
  | succ n ih =>
    intro i X f7 f8 hi h7 h8
    obtain ⟨f7, rfl⟩ : ∃ k, f7 = k + 1 := ⟨f7 - 1, by omega⟩
    obtain ⟨f8, rfl⟩ : ∃ k, f8 = k + 1 := ⟨f8 - 1, by omega⟩
    have e1 : ¬ nI v ≤ nI i := nI_ge (by omega) (by omega)
    rw [b_X7_mutual_16, b_X8_mutual_4, ev, ev8, if_neg e1, if_neg e1, show nI i + 1 = nI (i + 1) from nI_1 i, mu7_in h hv ev (by omega) _ n (i + 1) X 400 (by omega) (by omega), mu8_in h hv ev (by omega) _ n (i + 1) X 400 (by omega) (by omega)]
    exact ih (i + 1) _ f7 f8 (by omega) (by omega) (by omega)
theorem S_mutual : bv_S_mutual bv_I := by
  intro mi hI
  obtain ⟨v, hv, ev⟩ := WJ_vil hI
  obtain ⟨r, q1, q2⟩ := mu_lp hI hv ev v 0 0 400 400 (by omega) (by omega) (by omega)
  refine ⟨r, ?_, q2⟩
  unfold f_X7_mutual
  rw [gone7]
  exact q1
-- ===== both, unseen =====
def sp_orr (F : Nat → Nat) : Nat → Nat → Nat → Nat
  | 0, _, X => X
  | n + 1, i, X => sp_orr F n (i + 1) (X ||| F i)
theorem orr_acc {F : Nat → Nat} : ∀ (n i X : Nat), sp_orr F n i X = X ||| sp_orr F n i 0 := by
  intro n
  induction n with
  | zero => intro i X; rw [sp_orr, sp_orr, Nat.or_zero]
  | succ n ih =>
    intro i X
    rw [sp_orr, sp_orr, ih (i + 1) (X ||| F i), ih (i + 1) (0 ||| F i), Nat.zero_or, Nat.or_assoc]
theorem orr_lt {F : Nat → Nat} {N : Nat} : ∀ (n i X : Nat), X < 2 ^ N → (∀ j, i ≤ j → j < i + n → F j < 2 ^ N) → sp_orr F n i X < 2 ^ N := by
  intro n
  induction n with
  | zero => intro i X h _; exact h
  | succ n ih =>
    intro i X h hF
    rw [sp_orr]
    exact ih (i + 1) _ (Nat.or_lt_two_pow h (hF i (by omega) (by omega))) (fun j h1 h2 => hF j (by omega) (by omega))
theorem orr_add {F G : Nat → Nat} : ∀ (n i : Nat), sp_orr (fun j => F j ||| G j) n i 0 = sp_orr F n i 0 ||| sp_orr G n i 0 := by
  intro n
  induction n with
  | zero =>
    intro i
    rw [sp_orr, sp_orr, sp_orr, Nat.or_zero]
  | succ n ih =>
    intro i
    rw [sp_orr, sp_orr, sp_orr, Nat.zero_or, Nat.zero_or, Nat.zero_or, orr_acc n (i + 1) (F i ||| G i), orr_acc n (i + 1) (F i), orr_acc n (i + 1) (G i), ih (i + 1)]
    apply Nat.eq_of_testBit_eq
    intro j
    simp only [Nat.testBit_or]
    cases (F i).testBit j <;> cases (G i).testBit j <;> simp
def vw (c : bv_Mem) (s i : Nat) : Nat := sp_view (c 3) (th7 c 0) (hm c i) s
theorem sba7 {c m : bv_Mem} (h : bv_J c m) {v s : Nat} (hv : v ≤ 5) (ev : c 1 2 = nI v) (hs : s ≤ 1) : ∀ (n i X fu : Nat), i + n = v → n < fu → b_X5_seenByAll_14 c fu (nI s) (nI (sp_gone c 0)) (nI X) (nI i) = some (nI (sp_orr (vw c s) n i X)) := by
  intro n
  induction n with
  | zero =>
    intro i X fu hi hf
    obtain ⟨fu, rfl⟩ : ∃ k, fu = k + 1 := ⟨fu - 1, by omega⟩
    rw [b_X5_seenByAll_14, ev, if_pos (nI_le (by omega) (by omega)), sp_orr]
  | succ n ih =>
    intro i X fu hi hf
    obtain ⟨fu, rfl⟩ : ∃ k, fu = k + 1 := ⟨fu - 1, by omega⟩
    have e1 : ¬ nI v ≤ nI i := nI_ge (by omega) (by omega)
    have e2 : bv_in (nI i) 5 = true := nb_in (by omega) (by omega)
    obtain ⟨q1, q2⟩ := hm_eq h (i := i) (by omega)
    rw [b_X5_seenByAll_14, ev, if_neg e1, if_pos e2, nI_clamp (by omega), q1, view7g q2 hs]
    simp only [Option.bind_some]
    rw [nI_or, show nI i + 1 = nI (i + 1) from nI_1 i, ih (i + 1) _ fu (by omega) (by omega), sp_orr]
    rfl
theorem all7 {c m : bv_Mem} (h : bv_J c m) {v s : Nat} (hv : v ≤ 5) (ev : c 1 2 = nI v) (hs : s ≤ 1) : f_X5_seenByAll (nI s) c = some (nI (sp_orr (vw c s) v 0 0)) := by
  unfold f_X5_seenByAll
  rw [gone7]
  exact sba7 h hv ev hs v 0 0 400 (by omega) (by omega)
theorem both8 {c m : bv_Mem} (h : bv_J c m) {v : Nat} (hv : v ≤ 5) (ev : c 1 2 = nI v) : ∀ (n i X Y fu : Nat), i + n = v → n < fu → b_X8_both_6 m fu (nI X) (nI Y) (nI i) = some (nI (sp_orr (vw c 0) n i X) &&& nI (sp_orr (vw c 1) n i Y)) := by
  have ev8 : m 62 2 = nI v := (RJ_v h).trans ev
  intro n
  induction n with
  | zero =>
    intro i X Y fu hi hf
    obtain ⟨fu, rfl⟩ : ∃ k, fu = k + 1 := ⟨fu - 1, by omega⟩
    rw [b_X8_both_6, ev8, if_pos (nI_le (by omega) (by omega)), sp_orr, sp_orr]
  | succ n ih =>
    intro i X Y fu hi hf
    obtain ⟨fu, rfl⟩ : ∃ k, fu = k + 1 := ⟨fu - 1, by omega⟩
    have e1 : ¬ nI v ≤ nI i := nI_ge (by omega) (by omega)
    have e2 : bv_in (6 + nI i) 371 = true := in_lit (a := 6) (by omega) (by omega)
    have e3 : (6 + nI i).toNatClampNeg = 6 + i := c_lit 6 _ (by omega)
    obtain ⟨q1, q2⟩ := hm_eq h (i := i) (by omega)
    rw [b_X8_both_6, ev8, if_neg e1, if_pos e2, e3, RJ_at h (by omega), q1, show (0 : Int32) = nI 0 from rfl, show (1 : Int32) = nI 1 from rfl, view8n h q2 (by omega), view8n h q2 (by omega)]
    simp only [Option.bind_some]
    rw [nI_or, nI_or, show nI i + nI 1 = nI (i + 1) from nI_add i 1, ih (i + 1) _ _ fu (by omega) (by omega), sp_orr, sp_orr]
    rfl
theorem S_both : bv_S_both bv_I := by
  intro mi hI
  obtain ⟨v, hv, ev⟩ := WJ_vil hI
  refine ⟨nI (sp_orr (vw mi 0) v 0 0) &&& nI (sp_orr (vw mi 1) v 0 0), ?_, both8 hI hv ev v 0 0 0 400 (by omega) (by omega)⟩
  unfold f_X7_both
  rw [show (0 : Int32) = nI 0 from rfl, show (1 : Int32) = nI 1 from rfl, all7 hI hv ev (by omega), all7 hI hv ev (by omega)]
  rfl
theorem uns7 {c m : bv_Mem} (h : bv_J c m) {v : Nat} (hv : v ≤ 5) (ev : c 1 2 = nI v) : ∀ (n i X fu : Nat), i + n = v → n < fu → b_X7_unseen_20 c fu (nI X) (nI i) = some (1048575 &&& (nI (sp_orr (fun j => 2 ^ hm c j) n i X) ^^^ (-1))) := by
  intro n
  induction n with
  | zero =>
    intro i X fu hi hf
    obtain ⟨fu, rfl⟩ : ∃ k, fu = k + 1 := ⟨fu - 1, by omega⟩
    rw [b_X7_unseen_20, ev, if_pos (nI_le (by omega) (by omega)), sp_orr]
  | succ n ih =>
    intro i X fu hi hf
    obtain ⟨fu, rfl⟩ : ∃ k, fu = k + 1 := ⟨fu - 1, by omega⟩
    have e1 : ¬ nI v ≤ nI i := nI_ge (by omega) (by omega)
    have e2 : bv_in (nI i) 5 = true := nb_in (by omega) (by omega)
    obtain ⟨q1, q2⟩ := hm_eq h (i := i) (by omega)
    rw [b_X7_unseen_20, ev, if_neg e1, if_pos e2, nI_clamp (by omega), q1, b_one (by omega), nI_or, show nI i + 1 = nI (i + 1) from nI_1 i, ih (i + 1) _ fu (by omega) (by omega), sp_orr]
theorem uns8 {c m : bv_Mem} (h : bv_J c m) {v : Nat} (hv : v ≤ 5) (ev : c 1 2 = nI v) : ∀ (n i X fu : Nat), i + n = v → n < fu → b_X8_unseen_4 m fu (nI X) (nI i) = some (1048575 &&& (nI (sp_orr (fun j => (2 ^ hm c j ||| vw c 0 j) ||| vw c 1 j) n i X) ^^^ (-1))) := by
  have ev8 : m 62 2 = nI v := (RJ_v h).trans ev
  intro n
  induction n with
  | zero =>
    intro i X fu hi hf
    obtain ⟨fu, rfl⟩ : ∃ k, fu = k + 1 := ⟨fu - 1, by omega⟩
    rw [b_X8_unseen_4, ev8, if_pos (nI_le (by omega) (by omega)), sp_orr]
  | succ n ih =>
    intro i X fu hi hf
    obtain ⟨fu, rfl⟩ : ∃ k, fu = k + 1 := ⟨fu - 1, by omega⟩
    have e1 : ¬ nI v ≤ nI i := nI_ge (by omega) (by omega)
    have e2 : bv_in (6 + nI i) 371 = true := in_lit (a := 6) (by omega) (by omega)
    have e3 : (6 + nI i).toNatClampNeg = 6 + i := c_lit 6 _ (by omega)
    obtain ⟨q1, q2⟩ := hm_eq h (i := i) (by omega)
    have a0 : f_X8_viewOf (nI (hm c i)) 0 m = some (nI (vw c 0 i)) := view8n (s := 0) h q2 (by omega)
    have a1 : f_X8_viewOf (nI (hm c i)) 1 m = some (nI (vw c 1 i)) := view8n (s := 1) h q2 (by omega)
    rw [b_X8_unseen_4, ev8, if_neg e1, if_pos e2, e3, RJ_at h (by omega), q1, a0, a1]
    simp only [Option.bind_some]
    rw [b_one (by omega), nI_or, nI_or, nI_or, show nI i + 1 = nI (i + 1) from nI_1 i, ih (i + 1) _ fu (by omega) (by omega), sp_orr]
theorem S_unseen : bv_S_unseen bv_I := by
  intro mi hI
  obtain ⟨v, hv, ev⟩ := WJ_vil hI
  have a7 := uns7 hI hv ev v 0 (sp_orr (vw mi 0) v 0 0 ||| sp_orr (vw mi 1) v 0 0) 400 (by omega) (by omega)
  have a8 := uns8 hI hv ev v 0 0 400 (by omega) (by omega)
  have e : sp_orr (fun j => (2 ^ hm mi j ||| vw mi 0 j) ||| vw mi 1 j) v 0 0 = sp_orr (fun j => 2 ^ hm mi j) v 0 (sp_orr (vw mi 0) v 0 0 ||| sp_orr (vw mi 1) v 0 0) := by
    rw [orr_acc v 0 (sp_orr (vw mi 0) v 0 0 ||| sp_orr (vw mi 1) v 0 0)]
    have e1 := orr_add (F := fun j => 2 ^ hm mi j ||| vw mi 0 j) (G := vw mi 1) v 0
    have e2 := orr_add (F := fun j => 2 ^ hm mi j) (G := vw mi 0) v 0
    rw [e1, e2]
    apply Nat.eq_of_testBit_eq
    intro j
    simp only [Nat.testBit_or]
    cases (sp_orr (fun j => 2 ^ hm mi j) v 0 0).testBit j <;> simp
  refine ⟨1048575 &&& (nI (sp_orr (fun j => 2 ^ hm mi j) v 0 (sp_orr (vw mi 0) v 0 0 ||| sp_orr (vw mi 1) v 0 0)) ^^^ (-1)), ?_, ?_⟩
  · unfold f_X7_unseen
    have b0 : f_X5_seenByAll 0 mi = some (nI (sp_orr (vw mi 0) v 0 0)) := all7 (s := 0) hI hv ev (by omega)
    have b1 : f_X5_seenByAll 1 mi = some (nI (sp_orr (vw mi 1) v 0 0)) := all7 (s := 1) hI hv ev (by omega)
    rw [b0, b1]
    simp only [Option.bind_some]
    rw [nI_or]
    exact a7
  · rw [← e]
    exact a8
