-- ===== a day keeps what class and reference have in common =====
theorem d7_o {f a k : Nat} {c : bv_Mem} (h1 : ¬ (a = 1 ∧ k = 5)) (h2 : ¬ (a = 4 ∧ k < 20)) (h3 : ¬ (14 ≤ a ∧ a < 14 + f ∧ k = 4)) : d7 f c a k = c a k := by
  unfold d7
  rw [if_neg h1, if_neg h2, if_neg h3]
theorem d7_r {f a : Nat} {c : bv_Mem} (hf : f ≤ 8) (h1 : a ≠ 1) (h2 : a ≠ 4) (h3 : a < 14 ∨ 22 ≤ a) : d7 f c a = c a := by
  funext k
  exact d7_o (by omega) (by omega) (by omega)
theorem d8_o {f a k : Nat} {m : bv_Mem} (h0 : a = 62 → k ≠ 0) (h1 : a = 62 → ¬ (31 ≤ k ∧ k < 51)) (h2 : a = 62 → ¬ (51 ≤ k ∧ k < 51 + 6 * f ∧ (k - 51) % 6 = 4)) : d8 f m a k = m a k := by
  unfold d8
  by_cases ha : a = 62
  · subst ha
    rw [if_pos rfl, if_neg (h0 rfl), if_neg (h1 rfl), if_neg (h2 rfl)]
  · rw [if_neg ha]
theorem d8_r {f a : Nat} {m : bv_Mem} (h : a ≠ 62) : d8 f m a = m a := by
  funext k
  unfold d8
  rw [if_neg h]
theorem d7_g {f p g : Nat} {c : bv_Mem} (hp : p < 20) (hg : g ≤ 99) (e : c 4 p = nI g) : d7 f c 4 p = nI (g - 1) := by
  unfold d7
  rw [if_neg (by omega), if_pos ⟨rfl, hp⟩, e]
  unfold bv_max
  by_cases h0 : g = 0
  · subst h0
    rfl
  · have e1 : nI g - 1 = nI (g - 1) := pk_sub (b := 1) (by omega)
    rw [e1]
    by_cases h2 : g - 1 = 0
    · rw [h2]
      rfl
    · have : ¬ nI (g - 1) < 0 := nI_pos (by omega)
      first
        | rw [if_neg this]
        | (have t2 : (0 : Int32) < nI (g - 1) := nI_lt (a := 0) (by omega) (by omega)
           have t3 : ¬ nI (g - 1) ≤ 0 := nI_nle (by omega) (by omega)
           have t4 : (0 : Int32) ≤ nI (g - 1) := nI_pos' (by omega)
           simp [this, t2, t3, t4])
theorem d8_g {f p g : Nat} {m : bv_Mem} (hp : p < 20) (hg : g ≤ 99) (e : m 62 (31 + p) = nI g) : d8 f m 62 (31 + p) = nI (g - 1) := by
  unfold d8
  rw [if_pos rfl, if_neg (by omega), if_pos (by omega), e]
  by_cases h0 : g = 0
  · subst h0
    rfl
  · rw [if_neg (nI_ne0 (by omega) (by omega))]
    exact pk_sub (b := 1) (by omega)
theorem ag1_ok {o x : Int32} {v : Nat} (hv : v ≤ 99) (e : x = nI v) : ∃ w, w ≤ 99 ∧ ag1 o x = nI w := by
  subst e
  unfold ag1
  by_cases h0 : o = 0
  · rw [if_pos h0]
    unfold bv_min
    rw [show nI v + 1 = nI (v + 1) from nI_1 v]
    by_cases h9 : nI (v + 1) < 99
    · rw [if_pos h9]
      have h9' : nI (v + 1) < nI 99 := h9
      exact ⟨v + 1, by have := (nI_ltI (a := v + 1) (b := 99) (by omega) (by omega)).mp h9'; omega, rfl⟩
    · rw [if_neg h9]
      exact ⟨99, by omega, rfl⟩
  · rw [if_neg h0]
    exact ⟨v, hv, rfl⟩
theorem d8_age {f : Nat} {m : bv_Mem} (hage : ∀ b, b < 8 → ∃ v, v ≤ 99 ∧ m 62 (51 + 6 * b + 4) = nI v) : ∀ b, b < 8 → ∃ v, v ≤ 99 ∧ d8 f m 62 (51 + 6 * b + 4) = nI v := by
  intro b hb
  obtain ⟨v, hv, e⟩ := hage b hb
  unfold d8
  rw [if_pos rfl, if_neg (by omega), if_neg (by omega)]
  by_cases h : 51 ≤ 51 + 6 * b + 4 ∧ 51 + 6 * b + 4 < 51 + 6 * f ∧ (51 + 6 * b + 4 - 51) % 6 = 4
  · rw [if_pos h]
    exact ag1_ok hv e
  · rw [if_neg h]
    exact ⟨v, hv, e⟩
theorem J_age {c m : bv_Mem} (h : bv_J c m) : ∀ b, b < 8 → ∃ v, v ≤ 99 ∧ m 62 (51 + 6 * b + 4) = nI v := by
  intro b hb
  rw [RJ_b h hb (by omega)]
  exact (WJ_b h hb).2.2.2.2.1
theorem J_day {c m : bv_Mem} {d f : Nat} (h : bv_J c m) (ed : c 1 5 = nI d) (hd : d + 1 ≤ 9999) (hf : f ≤ 8) : bv_J (d7 f c) (d8 f m) := by
  refine J_town h (fun a ha => d7_r hf (by omega) (by omega) (by omega)) (fun a ha => d8_r ha) ?_ ?_
  · obtain ⟨⟨g1, g2, g3, g4, g5⟩, h2, h3, h4, h5, h6⟩ := h.1.1
    refine ⟨⟨?_, ?_, ?_, ?_, ?_⟩, ?_, ?_, ?_, ?_, ?_⟩
    · rw [d7_o (by omega) (by omega) (by omega)]; exact g1
    · rw [d7_o (by omega) (by omega) (by omega)]; exact g2
    · refine ⟨d + 1, hd, ?_⟩
      unfold d7
      rw [if_pos ⟨rfl, rfl⟩, ed, nI_1]
    · rw [d7_o (by omega) (by omega) (by omega)]; exact g4
    · rw [d7_o (by omega) (by omega) (by omega)]; exact g5
    · intro i hi
      rw [d7_o (by omega) (by omega) (by omega)]; exact h2 i hi
    · intro i hi
      rw [d7_o (by omega) (by omega) (by omega)]; exact h3 i hi
    · intro i hi
      obtain ⟨g, hg, e⟩ := h4 i hi
      exact ⟨g - 1, by omega, d7_g hi hg e⟩
    · intro b hb
      obtain ⟨k1, k2, k3, k4, k5, k6⟩ := h5 b hb
      refine ⟨?_, ?_, ?_, ?_, ?_, ?_⟩
      · rw [d7_o (by omega) (by omega) (by omega)]; exact k1
      · rw [d7_o (by omega) (by omega) (by omega)]; exact k2
      · rw [d7_o (by omega) (by omega) (by omega)]; exact k3
      · rw [d7_o (by omega) (by omega) (by omega)]; exact k4
      · unfold d7
        rw [if_neg (by omega), if_neg (by omega)]
        by_cases hq : 14 ≤ 1 + 13 + b ∧ 1 + 13 + b < 14 + f ∧ 4 = 4
        · rw [if_pos hq]
          obtain ⟨v, hv, e⟩ := k5
          exact ag1_ok hv e
        · rw [if_neg hq]
          exact k5
      · rw [d7_o (by omega) (by omega) (by omega)]; exact k6
    · intro i hi
      rw [d7_r hf (by omega) (by omega) (by omega), d7_r hf (by omega) (by omega) (by omega), d7_r hf (by omega) (by omega) (by omega)]
      exact h6 i hi
  · obtain ⟨⟨g1, g2, g3, g4, g5, g6⟩, h2, h3, h4, h5, h6, h7, h8, h9⟩ := h.1.2
    refine ⟨⟨?_, ?_, ?_, ?_, ?_, ?_⟩, ?_, ?_, ?_, ?_, ?_, ?_, ?_, ?_⟩
    · unfold d7 d8
      rw [if_pos rfl, if_pos rfl, if_pos ⟨rfl, rfl⟩, g1]
    · rw [d8_o (by omega) (by omega) (by omega), d7_o (by omega) (by omega) (by omega)]; exact g2
    · rw [d8_o (by omega) (by omega) (by omega), d7_o (by omega) (by omega) (by omega)]; exact g3
    · rw [d8_o (by omega) (by omega) (by omega), d7_o (by omega) (by omega) (by omega)]; exact g4
    · rw [d8_o (by omega) (by omega) (by omega), d7_o (by omega) (by omega) (by omega)]; exact g5
    · rw [d8_o (by omega) (by omega) (by omega), d7_o (by omega) (by omega) (by omega)]; exact g6
    · intro i hi
      rw [d8_o (by omega) (by omega) (by omega), d7_o (by omega) (by omega) (by omega)]; exact h2 i hi
    · intro i hi
      rw [d8_o (by omega) (by omega) (by omega), d7_o (by omega) (by omega) (by omega)]; exact h3 i hi
    · intro i hi
      obtain ⟨g, hg, e⟩ := WJ_g h hi
      have e8 : m 62 (31 + i) = nI g := (RJ_g h hi).trans e
      rw [d8_g hi hg e8]
      exact (d7_g hi hg e).symm
    · intro b hb k hk
      by_cases h4 : k = 4
      · subst h4
        have q5 := h5 b hb 5 (by omega)
        have q4 := h5 b hb 4 (by omega)
        unfold d7 d8
        rw [if_pos rfl, if_neg (by omega), if_neg (by omega)]
        by_cases hq : b < f
        · rw [if_pos (by omega), if_neg (by omega), if_neg (by omega), if_pos (by omega)]
          rw [show 51 + 6 * b + 4 + 1 = 51 + 6 * b + 5 from rfl, q5, q4]
        · rw [if_neg (by omega), if_neg (by omega), if_neg (by omega), if_neg (by omega)]
          exact q4
      · rw [d8_o (by omega) (by omega) (by omega), d7_o (by omega) (by omega) (by omega)]; exact h5 b hb k hk
    · intro i hi
      rw [d8_o (by omega) (by omega) (by omega), d7_o (by omega) (by omega) (by omega)]; exact h6 i hi
    · intro i hi
      rw [d8_o (by omega) (by omega) (by omega), d7_o (by omega) (by omega) (by omega)]; exact h7 i hi
    · have e3 : (fun j => d8 f m 62 (169 + j)) = fun j => m 62 (169 + j) := funext fun j => d8_o (by omega) (by omega) (by omega)
      rw [e3, d7_r hf (by omega) (by omega) (by omega), d7_r hf (by omega) (by omega) (by omega)]
      exact h8
    · have e3 : (fun j => d8 f m 62 (270 + j)) = fun j => m 62 (270 + j) := funext fun j => d8_o (by omega) (by omega) (by omega)
      rw [e3, d7_r hf (by omega) (by omega) (by omega), d7_r hf (by omega) (by omega) (by omega)]
      exact h9
-- ===== how many are missing =====
theorem sp_ct_cg {P Q : Nat → Bool} : ∀ (n lo X : Nat), (∀ j, lo ≤ j → j < lo + n → P j = Q j) → sp_ct P n lo X = sp_ct Q n lo X := by
  intro n
  induction n with
  | zero => intro lo X _; rfl
  | succ n ih =>
    intro lo X h
    rw [sp_ct, sp_ct, h lo (by omega) (by omega), ih (lo + 1) _ (fun j h1 h2 => h j (by omega) (by omega))]
theorem miss7 (c : bv_Mem) (v : Int32) : f_X7_missingBehind v c = some (nI (sp_ct (fun p => !(th7 c v p)) 20 0 0)) := by
  unfold f_X7_missingBehind
  rw [bd1 (gone7 c v), bd1 (bc7 (gone_lt c v) c)]
  have : sp_pc 20 (sp_gone c v) = sp_ct (fun p => !(th7 c v p)) 20 0 (sp_pc 20 0) := pc_mk 20 0 0 (by omega) (by decide)
  rw [this, pc_0]
theorem miss8_lp {m : bv_Mem} : ∀ (n i X fu : Nat), i + n = 20 → n < fu → b_X8_missing_4 m fu (nI X) (nI i) = some (nI (sp_ct (fun p => !(th8 m p)) n i X)) := by
  intro n
  induction n with
  | zero =>
    intro i X fu hi hf
    obtain ⟨fu, rfl⟩ : ∃ k, fu = k + 1 := ⟨fu - 1, by omega⟩
    have e : i = 20 := by omega
    subst e
    rw [b_X8_missing_4, if_pos (by decide), sp_ct]
  | succ n ih =>
    intro i X fu hi hf
    obtain ⟨fu, rfl⟩ : ∃ k, fu = k + 1 := ⟨fu - 1, by omega⟩
    have e1 : ¬ (20 : Int32) ≤ nI i := nI_ge (b := 20) (by omega) (by omega)
    rw [b_X8_missing_4, if_neg e1, bd1 (ther8 (by omega)), Int32.add_zero, show nI i + 1 = nI (i + 1) from nI_1 i, show nI X + 1 = nI (X + 1) from nI_1 X, sp_ct]
    cases h : th8 m i with
    | false =>
      rw [if_pos (by decide), ih (i + 1) (X + 1) fu (by omega) (by omega)]
      rfl
    | true =>
      rw [if_neg (by decide), ih (i + 1) X fu (by omega) (by omega)]
      rfl
theorem miss8 (m : bv_Mem) : f_X8_missing m = some (nI (sp_ct (fun p => !(th8 m p)) 20 0 0)) := miss8_lp 20 0 0 400 (by omega) (by omega)
theorem miss_now {c m : bv_Mem} (h : bv_J c m) : f_X8_missing m = some (nI (sp_ct (fun p => !(th7 c 0 p)) 20 0 0)) := by
  rw [miss8, sp_ct_cg (Q := fun p => !(th7 c 0 p)) 20 0 0 (fun j _ h2 => by rw [th_eq h (by omega)])]
-- ===== days =====
theorem day_J {c m : bv_Mem} {d : Nat} (h : bv_J c m) (ed : c 1 5 = nI d) (hd : d + 1 ≤ 9999) : ∃ c' m', f_X5_passDay c = some c' ∧ f_X8_day m = some m' ∧ bv_J c' m' ∧ c' 1 5 = nI (d + 1) ∧ (∀ a, 61 ≤ a → c' a = c a) ∧ ∀ a, a < 61 → m' a = m a := by
  obtain ⟨f, hf, ef⟩ := WJ_fil h
  refine ⟨d7 f c, d8 f m, day7 hf ef, day8 hf ((RJ_f h).trans ef) (J_age h), J_day h ed hd hf, ?_, fun a ha => d7_r hf (by omega) (by omega) (by omega), fun a ha => d8_r (by omega)⟩
  unfold d7
  rw [if_pos ⟨rfl, rfl⟩, ed, nI_1]
theorem days_lp {N : Nat} (hN : N ≤ 100) : ∀ (n i f7 f8 d : Nat) (c m : bv_Mem), bv_J c m → c 1 5 = nI d → d + n ≤ 9999 → i + n = N → n < f7 → n < f8 → ∃ r c' m', b_X7_days_39 f7 (nI N) (nI i) c = some (r, c') ∧ b_X8_goesOn_2 f8 (nI N) (nI i) m = some m' ∧ f_X8_missing m' = some r ∧ bv_J c' m' ∧ (∀ a, 61 ≤ a → c' a = c a) ∧ ∀ a, a < 61 → m' a = m a := by
  intro n
  induction n with
  | zero =>
    intro i f7 f8 d c m h ed hd hi h7 h8
    obtain ⟨f7, rfl⟩ : ∃ k, f7 = k + 1 := ⟨f7 - 1, by omega⟩
    obtain ⟨f8, rfl⟩ : ∃ k, f8 = k + 1 := ⟨f8 - 1, by omega⟩
    have e1 : nI N ≤ nI i := nI_le (by omega) (by omega)
    refine ⟨nI (sp_ct (fun p => !(th7 c 0 p)) 20 0 0), c, m, ?_, ?_, miss_now h, h, fun _ _ => rfl, fun _ _ => rfl⟩
    · rw [b_X7_days_39, if_pos e1, bd1 (miss7 c 0)]
    · rw [b_X8_goesOn_2, if_pos e1]
  | succ n ih =>
    intro i f7 f8 d c m h ed hd hi h7 h8
    obtain ⟨f7, rfl⟩ : ∃ k, f7 = k + 1 := ⟨f7 - 1, by omega⟩
    obtain ⟨f8, rfl⟩ : ∃ k, f8 = k + 1 := ⟨f8 - 1, by omega⟩
    have e1 : ¬ nI N ≤ nI i := nI_ge (by omega) (by omega)
    obtain ⟨c1, m1, q1, q2, q3, q4, q5, q6⟩ := day_J h ed (by omega)
    obtain ⟨r, c', m', k1, k2, k3, k4, k5, k6⟩ := ih (i + 1) f7 f8 (d + 1) c1 m1 q3 q4 (by omega) (by omega) (by omega) (by omega)
    refine ⟨r, c', m', ?_, ?_, k3, k4, fun a ha => (k5 a ha).trans (q5 a ha), fun a ha => (k6 a ha).trans (q6 a ha)⟩
    · rw [b_X7_days_39, if_neg e1, bd1 q1, show nI i + 1 = nI (i + 1) from nI_1 i, k1]
    · rw [b_X8_goesOn_2, if_neg e1, bd1 q2, show nI i + 1 = nI (i + 1) from nI_1 i, k2]
theorem n_of0 {p M : Int32} {n : Nat} (h : 1 ≤ p ∧ p ≤ M) (hM : M.toInt = n) : ∃ j, 1 ≤ j ∧ j ≤ n ∧ p = nI j := by
  have h1 : (1 : Int32).toInt ≤ p.toInt := i_le.mp h.1
  have h2 : (1 : Int32).toInt = 1 := rfl
  have h3 : (0 : Int32).toInt = 0 := rfl
  obtain ⟨j, hj, e⟩ := n_of (p := p) ⟨i_le.mpr (by omega), h.2⟩ hM
  refine ⟨j, ?_, hj, e⟩
  have h4 := i_le.mp h.2
  rw [hM] at h4
  have hM2 := M.toInt_lt
  rw [e, nI_toInt (by omega)] at h1
  omega
theorem S_days : bv_S_days bv_I := by
  intro n mi hI
  refine lock (F7 := f_X7_days n) (F8 := f_X8_days n) ?_ mi hI
  intro c m h
  by_cases hn : 1 ≤ n ∧ n ≤ 100
  · obtain ⟨N, hN1, hN, rfl⟩ := n_of0 hn (n := 100) rfl
    obtain ⟨d, hd, ed⟩ := WJ_day h
    have w7 : f_X7_isWithin (nI N) 1 100 c = some 1 := by rw [win7, if_pos hn]
    have w8 : f_X8_in (nI N) 1 100 m = some 1 := by rw [win8, if_pos hn]
    have es : c 1 5 + nI N = nI (d + N) := by rw [ed, nI_add]
    have es8 : m 62 0 + nI N = nI (d + N) := by rw [RJ_day h, es]
    by_cases hq : d + N ≤ 9999
    · have e9 : nI (d + N) ≤ 9999 := nI_le (b := 9999) hq (by omega)
      obtain ⟨r, c', m', k1, k2, k3, k4, k5, k6⟩ := days_lp hN N 0 400 400 d c m h ed hq (by omega) (by omega) (by omega)
      refine ⟨r, c', m', ?_, ?_, k4, k5, k6⟩
      · unfold f_X7_days
        rw [bd1 w7, if_neg (by decide), es, if_pos e9]
        exact k1
      · have k2' : f_X8_goesOn (nI N) m = some m' := k2
        unfold f_X8_days
        rw [bd1 w8, if_neg (by decide), es8, if_pos e9, bd1 k2', bd1 k3]
    · have e9 : ¬ nI (d + N) ≤ 9999 := nI_ge (a := 9999) (by omega) (by omega)
      refine out_err 3 (-1000000003) h ?_ ?_
      · unfold f_X7_days
        rw [bd1 w7, if_neg (by decide), es, if_neg e9, bd1 (x7_e3 c)]
      · unfold f_X8_days
        rw [bd1 w8, if_neg (by decide), es8, if_neg e9, bd1 (x8_e3 m)]
  · have w7 : f_X7_isWithin n 1 100 c = some 0 := by rw [win7, if_neg hn]
    have w8 : f_X8_in n 1 100 m = some 0 := by rw [win8, if_neg hn]
    refine out_err 1 (-1000000001) h ?_ ?_
    · unfold f_X7_days
      rw [bd1 w7, if_pos rfl, bd1 (x7_e1 c)]
    · unfold f_X8_days
      rw [bd1 w8, if_pos rfl, bd1 (x8_e1 m)]
-- ===== loose =====
theorem drw (x : Int32) : ∃ X, X < 2 ^ 24 ∧ (x.toUInt32 >>> ((8 : Int32).toUInt32 &&& Int32.toUInt32 31)).toInt32 = nI X := by
  have h := pk_ushr x 8 8 (by decide)
  refine ⟨x.toBitVec.toNat / 2 ^ 8, ?_, ?_⟩
  · have := x.toBitVec.isLt
    omega
  · apply Int32.toBitVec_inj.mp
    apply BitVec.eq_of_toNat_eq
    rw [h, nI_bv, Nat.mod_eq_of_lt]
    have := x.toBitVec.isLt
    omega
def lcg (x : Int32) : Int32 := x * 1103515245 + 12345
def lcv (x : Int32) : Int32 := ((lcg x).toUInt32 >>> ((8 : Int32).toUInt32 &&& Int32.toUInt32 31)).toInt32
theorem dr7 (c : bv_Mem) : f_X5_draw c = some (lcv (c 1 6), bv_up c 1 6 (lcg (c 1 6))) := by
  unfold f_X5_draw lcv lcg
  rw [bv_up_eq]
theorem dr8 (m : bv_Mem) : f_X8_draw m = some (lcv (m 62 1), bv_up m 62 1 (lcg (m 62 1))) := by
  unfold f_X8_draw lcv lcg
  rw [bv_up_eq]
theorem ok_z {v : Int32} : bt_ok 1 6 v := ok_town (fun q => absurd q (by decide)) (fun q => absurd q (by decide)) (fun q => absurd q (by decide)) (fun q => absurd q (by decide))
theorem loose_J {c m : bv_Mem} {d : Nat} (h : bv_J c m) (ed : c 1 5 = nI d) (hd : d + 1 ≤ 9999) : ∃ c' m', f_X5_passLooseDay c = some c' ∧ (∀ (k : bv_Mem → Option (Int32 × bv_Mem)), ((f_X8_draw m).bind fun z2 => (f_X8_draw z2.2).bind fun z3 => if bv_in ((31 : Int32) + (z2.1 - z2.1 / (20 : Int32) * (20 : Int32))) 371 = true then (f_X8_day (bv_up z3.2 62 ((31 : Int32) + (z2.1 - z2.1 / (20 : Int32) * (20 : Int32))).toNatClampNeg (z3.1 - z3.1 / (10 : Int32) * (10 : Int32)))).bind k else none) = k m') ∧ bv_J c' m' ∧ c' 1 5 = nI (d + 1) ∧ (∀ a, 61 ≤ a → c' a = c a) ∧ ∀ a, a < 61 → m' a = m a := by
  have j1 : bv_J (bv_up c 1 6 (lcg (c 1 6))) (bv_up m 62 1 (lcg (c 1 6))) := J_up 0 (by unfold bt_cor; omega) ok_z h
  have j2 : bv_J (bv_up (bv_up c 1 6 (lcg (c 1 6))) 1 6 (lcg (lcg (c 1 6)))) (bv_up (bv_up m 62 1 (lcg (c 1 6))) 62 1 (lcg (lcg (c 1 6)))) := J_up 0 (by unfold bt_cor; omega) ok_z j1
  obtain ⟨X, hX, eX⟩ := drw (lcg (c 1 6))
  obtain ⟨Y, hY, eY⟩ := drw (lcg (lcg (c 1 6)))
  have v1 : lcv (c 1 6) = nI X := eX
  have v2 : lcv (lcg (c 1 6)) = nI Y := eY
  have p1 : nI X - nI X / 20 * 20 = nI (X % 20) := pk_rem (d := 20) (by omega) (by omega) (by omega)
  have p2 : nI Y - nI Y / 10 * 10 = nI (Y % 10) := pk_rem (d := 10) (by omega) (by omega) (by omega)
  have hp : X % 20 < 20 := Nat.mod_lt _ (by omega)
  have hq : Y % 10 < 10 := Nat.mod_lt _ (by omega)
  have j3 : bv_J (bv_up (bv_up (bv_up c 1 6 (lcg (c 1 6))) 1 6 (lcg (lcg (c 1 6)))) 4 (X % 20) (nI (Y % 10))) (bv_up (bv_up (bv_up m 62 1 (lcg (c 1 6))) 62 1 (lcg (lcg (c 1 6)))) 62 (31 + X % 20) (nI (Y % 10))) := J_up 0 (by unfold bt_cor; omega) (ok_miss (by omega)) j2
  have e5 : bv_up (bv_up (bv_up c 1 6 (lcg (c 1 6))) 1 6 (lcg (lcg (c 1 6)))) 4 (X % 20) (nI (Y % 10)) 1 5 = nI d := by
    rw [bv_up_nn (by omega), bv_up_nn (by omega), bv_up_nn (by omega), ed]
  obtain ⟨c1, m1, q1, q2, q3, q4, q5, q6⟩ := day_J j3 e5 hd
  have e9 : bv_in (31 + nI (X % 20)) 371 = true := in_lit (a := 31) (by omega) (by omega)
  have e10 : (31 + nI (X % 20)).toNatClampNeg = 31 + X % 20 := c_lit 31 _ (by omega)
  refine ⟨c1, m1, ?_, ?_, q3, q4, ?_, ?_⟩
  · unfold f_X5_passLooseDay
    rw [bd1 (dr7 c), bd1 (dr7 _)]
    dsimp only
    rw [bv_up_eq, v1, v2, p1, p2, if_pos (nb_in hp (by omega)), nI_clamp (by omega), bd1 q1]
  · intro k
    rw [bd1 (dr8 m), bd1 (dr8 _)]
    dsimp only
    rw [bv_up_eq, RJ_z h, v1, v2, p1, p2, if_pos e9, e10, bd1 q2]
  · intro a ha
    rw [q5 a ha, bv_up_row (by omega), bv_up_row (by omega), bv_up_row (by omega)]
  · intro a ha
    rw [q6 a ha, bv_up_row (by omega), bv_up_row (by omega), bv_up_row (by omega)]
theorem loose_lp {N : Nat} (hN : N ≤ 100) : ∀ (n i f7 f8 d : Nat) (c m : bv_Mem), bv_J c m → c 1 5 = nI d → d + n ≤ 9999 → i + n = N → n < f7 → n < f8 → bv_out (b_X7_loose_39 f7 (nI N) (nI i)) (b_X8_loose_40 f8 (nI N) (nI i)) c m := by
  intro n
  induction n with
  | zero =>
    intro i f7 f8 d c m h ed hd hi h7 h8
    obtain ⟨f7, rfl⟩ : ∃ k, f7 = k + 1 := ⟨f7 - 1, by omega⟩
    obtain ⟨f8, rfl⟩ : ∃ k, f8 = k + 1 := ⟨f8 - 1, by omega⟩
    have e1 : nI N ≤ nI i := nI_le (by omega) (by omega)
    refine out_ro (nI (sp_ct (fun p => !(th7 c 0 p)) 20 0 0)) h ?_ ?_
    · rw [b_X7_loose_39, if_pos e1, bd1 (miss7 c 0)]
    · rw [b_X8_loose_40, if_pos e1, bd1 (miss_now h)]
  | succ n ih =>
    intro i f7 f8 d c m h ed hd hi h7 h8
    obtain ⟨f7, rfl⟩ : ∃ k, f7 = k + 1 := ⟨f7 - 1, by omega⟩
    obtain ⟨f8, rfl⟩ : ∃ k, f8 = k + 1 := ⟨f8 - 1, by omega⟩
    have e1 : ¬ nI N ≤ nI i := nI_ge (by omega) (by omega)
    obtain ⟨c1, m1, q1, q2, q3, q4, q5, q6⟩ := loose_J h ed (by omega)
    obtain ⟨r, c', m', k1, k2, k4, k5, k6⟩ := ih (i + 1) f7 f8 (d + 1) c1 m1 q3 q4 (by omega) (by omega) (by omega) (by omega)
    refine ⟨r, c', m', ?_, ?_, k4, fun a ha => (k5 a ha).trans (q5 a ha), fun a ha => (k6 a ha).trans (q6 a ha)⟩
    · rw [b_X7_loose_39, if_neg e1, bd1 q1, show nI i + 1 = nI (i + 1) from nI_1 i, k1]
    · rw [b_X8_loose_40, if_neg e1, show nI i + 1 = nI (i + 1) from nI_1 i, q2, k2]
theorem S_loose : bv_S_loose bv_I := by
  intro n mi hI
  refine lock (F7 := f_X7_loose n) (F8 := f_X8_loose n) ?_ mi hI
  intro c m h
  by_cases hn : 1 ≤ n ∧ n ≤ 40
  · obtain ⟨N, hN1, hN, rfl⟩ := n_of0 hn (n := 40) rfl
    obtain ⟨d, hd, ed⟩ := WJ_day h
    have w7 : f_X7_isWithin (nI N) 1 40 c = some 1 := by rw [win7, if_pos hn]
    have w8 : f_X8_in (nI N) 1 40 m = some 1 := by rw [win8, if_pos hn]
    have es : c 1 5 + nI N = nI (d + N) := by rw [ed, nI_add]
    have es8 : m 62 0 + nI N = nI (d + N) := by rw [RJ_day h, es]
    by_cases hq : d + N ≤ 9999
    · have e9 : nI (d + N) ≤ 9999 := nI_le (b := 9999) hq (by omega)
      obtain ⟨r, c', m', k1, k2, k3⟩ := loose_lp (N := N) (by omega) N 0 400 400 d c m h ed hq (by omega) (by omega) (by omega)
      refine ⟨r, c', m', ?_, ?_, k3⟩
      · unfold f_X7_loose
        rw [bd1 w7, if_neg (by decide), es, if_pos e9]
        exact k1
      · unfold f_X8_loose
        rw [bd1 w8, if_neg (by decide), es8, if_pos e9]
        exact k2
    · have e9 : ¬ nI (d + N) ≤ 9999 := nI_ge (a := 9999) (by omega) (by omega)
      refine out_err 3 (-1000000003) h ?_ ?_
      · unfold f_X7_loose
        rw [bd1 w7, if_neg (by decide), es, if_neg e9, bd1 (x7_e3 c)]
      · unfold f_X8_loose
        rw [bd1 w8, if_neg (by decide), es8, if_neg e9, bd1 (x8_e3 m)]
  · have w7 : f_X7_isWithin n 1 40 c = some 0 := by rw [win7, if_neg hn]
    have w8 : f_X8_in n 1 40 m = some 0 := by rw [win8, if_neg hn]
    refine out_err 1 (-1000000001) h ?_ ?_
    · unfold f_X7_loose
      rw [bd1 w7, if_pos rfl, bd1 (x7_e1 c)]
    · unfold f_X8_loose
      rw [bd1 w8, if_pos rfl, bd1 (x8_e1 m)]
