theorem nz_or (X : Nat) : nI X ||| (0 : Int32) = nI X := Int32.or_zero
theorem gone_lp {c : bv_Mem} {v : Int32} : ∀ (n i X fu : Nat), i + n = 20 → n < fu → X < 2 ^ 20 → b_X1_goneBehind_4 c fu v (nI X) (nI i) = some (nI (sp_mk (fun p => !(decide (c 4 p ≤ v))) n i X)) := by
  intro n
  induction n with
  | zero =>
    intro i X fu hi hf hX
    obtain ⟨fu, rfl⟩ : ∃ k, fu = k + 1 := ⟨fu - 1, by omega⟩
    have e : i = 20 := by omega
    subst e
    rw [b_X1_goneBehind_4, if_pos (by decide), sp_mk]
  | succ n ih =>
    intro i X fu hi hf hX
    obtain ⟨fu, rfl⟩ : ∃ k, fu = k + 1 := ⟨fu - 1, by omega⟩
    have e1 : ¬ (20 : Int32) ≤ nI i := nI_ge (b := 20) (by omega) (by omega)
    have e2 : bv_in (nI i) 20 = true := nb_in (by omega) (by omega)
    rw [b_X1_goneBehind_4, if_neg e1, if_pos e2, nI_clamp (by omega), show nI i + 1 = nI (i + 1) from nI_1 i, sp_mk]
    by_cases h : c 4 i ≤ v
    · rw [if_pos h, ih (i + 1) X fu (by omega) (by omega) hX]
      simp [h]
    · rw [if_neg h, b_one (by omega), nI_or, ih (i + 1) _ fu (by omega) (by omega) (or_lt hX (by omega))]
      simp [h]
def sp_gone (c : bv_Mem) (v : Int32) : Nat := sp_mk (fun p => !(decide (c 4 p ≤ v))) 20 0 0
theorem gone7 (c : bv_Mem) (v : Int32) : f_X1_goneBehind v c = some (nI (sp_gone c v)) := gone_lp 20 0 0 400 (by omega) (by omega) (by decide)
theorem gone_lt (c : bv_Mem) (v : Int32) : sp_gone c v < 2 ^ 20 := sp_mk_lt 20 0 0 (by omega) (by decide)
theorem gone_bit {c : bv_Mem} {v : Int32} {p : Nat} (hp : p < 20) : (sp_gone c v).testBit p = !(decide (c 4 p ≤ v)) := by
  unfold sp_gone
  rw [sp_mk_bit, decide_eq_true (show 0 ≤ p ∧ p < 0 + 20 by omega), Nat.zero_testBit, Bool.true_and, Bool.false_or]
def sp_view (h : Nat → Int32) (th : Nat → Bool) (a s : Nat) : Nat := if s = 0 then sp_mk (fun b => sp_see h th a b (h a)) a 0 0 else sp_mk (fun b => sp_see h th a b (h a)) (19 - a) (a + 1) 0
theorem view_lt {h : Nat → Int32} {th : Nat → Bool} {a s : Nat} (ha : a < 20) : sp_view h th a s < 2 ^ 20 := by
  unfold sp_view
  split
  · exact sp_mk_lt _ _ _ (by omega) (by decide)
  · exact sp_mk_lt _ _ _ (by omega) (by decide)
theorem view_cg {h h' : Nat → Int32} {th th' : Nat → Bool} {a s : Nat} (ha : a < 20) (h1 : ∀ p, p < 20 → h p = h' p) (h2 : ∀ p, p < 20 → th p = th' p) : sp_view h th a s = sp_view h' th' a s := by
  unfold sp_view
  rw [h1 a ha]
  have e1 := sp_mk_cg (P := fun b => sp_see h th a b (h' a)) (Q := fun b => sp_see h' th' a b (h' a)) a 0 0 (fun j _ hj => sp_see_cg h1 h2 ha (by omega))
  have e2 := sp_mk_cg (P := fun b => sp_see h th a b (h' a)) (Q := fun b => sp_see h' th' a b (h' a)) (19 - a) (a + 1) 0 (fun j _ hj => sp_see_cg h1 h2 ha (by omega))
  rw [e1, e2]
theorem v7_lp {c : bv_Mem} {a G N : Nat} (ha : a < 20) (hG : G < 2 ^ 20) (hN : N ≤ 20) : ∀ (n i X fu : Nat), i + n = N → n < fu → X < 2 ^ 20 → b_X1_seenFrom_32 c fu (nI a) (nI G) (nI N) (nI X) (nI i) = some (nI (sp_mk (fun b => sp_see (c 3) (fun p => !(G.testBit p)) a b (c 3 a)) n i X)) := by
  intro n
  induction n with
  | zero =>
    intro i X fu hi hf hX
    obtain ⟨fu, rfl⟩ : ∃ k, fu = k + 1 := ⟨fu - 1, by omega⟩
    rw [b_X1_seenFrom_32, if_pos (nI_le (by omega) (by omega)), sp_mk]
  | succ n ih =>
    intro i X fu hi hf hX
    obtain ⟨fu, rfl⟩ : ∃ k, fu = k + 1 := ⟨fu - 1, by omega⟩
    have e1 : ¬ nI N ≤ nI i := nI_ge (by omega) (by omega)
    rw [b_X1_seenFrom_32, if_neg e1, see7 ha (by omega) hG, Int32.add_zero]
    simp only [Option.bind_some]
    rw [show nI i + 1 = nI (i + 1) from nI_1 i, sp_mk]
    cases h : sp_see (c 3) (fun p => !(G.testBit p)) a i (c 3 a) with
    | false =>
      rw [ih (i + 1) X fu (by omega) (by omega) hX]
      simp
    | true =>
      rw [b_one (by omega), nI_or, ih (i + 1) _ fu (by omega) (by omega) (or_lt hX (by omega))]
      simp
theorem view7 {c : bv_Mem} {a G s : Nat} (ha : a < 20) (hG : G < 2 ^ 20) (hs : s ≤ 1) : f_X1_seenFrom (nI a) (nI s) (nI G) c = some (nI (sp_view (c 3) (fun p => !(G.testBit p)) a s)) := by
  unfold f_X1_seenFrom sp_view
  match s, hs with
  | 0, _ =>
    rw [if_pos (show nI 0 = 0 from rfl), b_X1_seenFrom_11, if_pos (show nI 0 = 0 from rfl)]
    exact v7_lp ha hG (by omega) a 0 0 400 (by omega) (by omega) (by decide)
  | 1, _ =>
    rw [if_neg (by decide), b_X1_seenFrom_11, if_neg (by decide), if_neg (by decide), show nI a + 1 = nI (a + 1) from nI_1 a]
    exact v7_lp (N := 20) ha hG (by omega) (19 - a) (a + 1) 0 400 (by omega) (by omega) (by decide)
theorem v8_lp {m : bv_Mem} {a N : Nat} (ha : a < 20) (hN : N ≤ 20) : ∀ (n i X fu : Nat), i + n = N → n < fu → X < 2 ^ 20 → b_X8_viewOf_31 m fu (nI a) (nI X) (nI N) (nI i) = some (nI (sp_mk (fun b => sp_see (fun q => m 62 (11 + q)) (th8 m) a b (m 62 (11 + a))) n i X)) := by
  intro n
  induction n with
  | zero =>
    intro i X fu hi hf hX
    obtain ⟨fu, rfl⟩ : ∃ k, fu = k + 1 := ⟨fu - 1, by omega⟩
    rw [b_X8_viewOf_31, if_pos (nI_le (by omega) (by omega)), sp_mk]
  | succ n ih =>
    intro i X fu hi hf hX
    obtain ⟨fu, rfl⟩ : ∃ k, fu = k + 1 := ⟨fu - 1, by omega⟩
    have e1 : ¬ nI N ≤ nI i := nI_ge (by omega) (by omega)
    have e2 : bv_in (11 + nI a) 371 = true := in_lit (a := 11) (by omega) (by omega)
    have e3 : (11 + nI a).toNatClampNeg = 11 + a := c_lit 11 _ (by omega)
    rw [b_X8_viewOf_31, if_neg e1, if_pos e2, e3, see8 ha (by omega)]
    simp only [Option.bind_some]
    rw [show nI i + 1 = nI (i + 1) from nI_1 i, nz_or, sp_mk]
    cases h : sp_see (fun q => m 62 (11 + q)) (th8 m) a i (m 62 (11 + a)) with
    | false =>
      rw [ih (i + 1) X fu (by omega) (by omega) hX]
      simp
    | true =>
      rw [b_one (by omega), nI_or, ih (i + 1) _ fu (by omega) (by omega) (or_lt hX (by omega))]
      simp
theorem view8 {m : bv_Mem} {a s : Nat} (ha : a < 20) (hs : s ≤ 1) : f_X8_viewOf (nI a) (nI s) m = some (nI (sp_view (fun q => m 62 (11 + q)) (th8 m) a s)) := by
  unfold f_X8_viewOf sp_view
  match s, hs with
  | 0, _ =>
    rw [if_pos (show nI 0 = 0 from rfl), b_X8_viewOf_13, if_pos (show nI 0 = 0 from rfl)]
    exact v8_lp ha (by omega) a 0 0 400 (by omega) (by omega) (by decide)
  | 1, _ =>
    rw [if_neg (by decide), b_X8_viewOf_13, if_neg (by decide), if_neg (by decide), show nI a + 1 = nI (a + 1) from nI_1 a]
    exact v8_lp (N := 20) ha (by omega) (19 - a) (a + 1) 0 400 (by omega) (by omega) (by decide)
/-- what is there today, by the class's numbers -/
def th7 (c : bv_Mem) (v : Int32) (p : Nat) : Bool := decide (c 4 p ≤ v)
theorem th_eq {c m : bv_Mem} (h : bv_J c m) {p : Nat} (hp : p < 20) : th8 m p = th7 c 0 p := by
  obtain ⟨g, hg, e⟩ := WJ_g h hp
  unfold th8 th7
  rw [RJ_g h hp, e]
  congr 1
  apply propext
  rw [show (0 : Int32) = nI 0 from rfl, nI_eq (by omega) (by omega), nI_leI (by omega) (by omega)]
  omega
/-- the view of today, of both -/
theorem view_now {c m : bv_Mem} (h : bv_J c m) {a s : Nat} (ha : a < 20) : sp_view (fun q => m 62 (11 + q)) (th8 m) a s = sp_view (c 3) (th7 c 0) a s := view_cg ha (fun p hp => RJ_h h hp) (fun p hp => th_eq h hp)
theorem view7g {c : bv_Mem} {a s : Nat} {v : Int32} (ha : a < 20) (hs : s ≤ 1) : f_X1_seenFrom (nI a) (nI s) (nI (sp_gone c v)) c = some (nI (sp_view (c 3) (th7 c v) a s)) := by
  rw [view7 ha (gone_lt c v) hs, view_cg (h' := c 3) (th' := th7 c v) ha (fun _ _ => rfl) (fun p hp => by rw [gone_bit hp, Bool.not_not]; rfl)]
theorem view_dis {h : Nat → Int32} {th : Nat → Bool} {a j : Nat} : (sp_view h th a 0).testBit j = true → (sp_view h th a 1).testBit j = false := by
  unfold sp_view
  rw [if_pos rfl, if_neg (by decide), sp_mk_bit, sp_mk_bit, Nat.zero_testBit, Bool.false_or, Bool.false_or]
  intro q
  rw [Bool.and_eq_true] at q
  have := of_decide_eq_true q.1
  rw [decide_eq_false (by omega), Bool.false_and]
/-- how many places are seen on both sides -/
def sp_sights (h : Nat → Int32) (th : Nat → Bool) (a : Nat) : Nat := sp_pc 20 (sp_view h th a 0) + sp_pc 20 (sp_view h th a 1)
theorem around7 {c : bv_Mem} {a : Nat} {v : Int32} (ha : a < 20) : f_X1_seenAround (nI a) (nI (sp_gone c v)) c = some (nI (sp_view (c 3) (th7 c v) a 0 ||| sp_view (c 3) (th7 c v) a 1)) := by
  unfold f_X1_seenAround
  rw [show (0 : Int32) = nI 0 from rfl, show (1 : Int32) = nI 1 from rfl, view7g ha (by omega), view7g ha (by omega)]
  simp only [Option.bind_some]
  rw [nI_or]
theorem sights7 {c : bv_Mem} {a : Nat} {v : Int32} (ha : a < 20) : (f_X1_seenAround (nI a) (nI (sp_gone c v)) c).bind (fun z => f_J6_bitCount_0f7a4 z c) = some (nI (sp_sights (c 3) (th7 c v) a)) := by
  rw [around7 ha]
  simp only [Option.bind_some]
  rw [bc7 (Nat.or_lt_two_pow (view_lt ha) (view_lt ha)), pc_or _ _ _ (fun j hj => view_dis hj)]
  rfl
theorem sights8 {m : bv_Mem} {a : Nat} (ha : a < 20) : f_X8_sightsOf (nI a) m = some (nI (sp_sights (fun q => m 62 (11 + q)) (th8 m) a)) := by
  unfold f_X8_sightsOf
  rw [show (0 : Int32) = nI 0 from rfl, show (1 : Int32) = nI 1 from rfl, view8 ha (by omega), view8 ha (by omega)]
  simp only [Option.bind_some]
  rw [bits8 (view_lt ha)]
  simp only [Option.bind_some]
  rw [bits8 (view_lt ha)]
  simp only [Option.bind_some]
  rw [nI_add]
  rfl
theorem sights_now {c m : bv_Mem} (h : bv_J c m) {a : Nat} (ha : a < 20) : sp_sights (fun q => m 62 (11 + q)) (th8 m) a = sp_sights (c 3) (th7 c 0) a := by
  unfold sp_sights
  rw [view_now h ha, view_now h ha]
theorem von_lp {c : bv_Mem} {v : Nat} {p : Int32} (hv : v ≤ 5) (ev : c 1 2 = nI v) : ∀ (n i X fu : Nat), i + n = v → n < fu → X < 2 ^ 20 → b_X5_villagesOn_4 c fu p (nI X) (nI i) = some (nI (sp_mk (fun j => decide (c 5 j = p)) n i X)) := by
  intro n
  induction n with
  | zero =>
    intro i X fu hi hf hX
    obtain ⟨fu, rfl⟩ : ∃ k, fu = k + 1 := ⟨fu - 1, by omega⟩
    rw [b_X5_villagesOn_4, ev, if_pos (nI_le (by omega) (by omega)), sp_mk]
  | succ n ih =>
    intro i X fu hi hf hX
    obtain ⟨fu, rfl⟩ : ∃ k, fu = k + 1 := ⟨fu - 1, by omega⟩
    have e1 : ¬ nI v ≤ nI i := nI_ge (by omega) (by omega)
    have e2 : bv_in (nI i) 5 = true := nb_in (by omega) (by omega)
    rw [b_X5_villagesOn_4, ev, if_neg e1, if_pos e2, nI_clamp (by omega), show nI i + 1 = nI (i + 1) from nI_1 i, sp_mk]
    by_cases h : c 5 i = p
    · rw [if_pos h, b_one (by omega), nI_or, ih (i + 1) _ fu (by omega) (by omega) (or_lt hX (by omega))]
      simp [h]
    · rw [if_neg h, ih (i + 1) X fu (by omega) (by omega) hX]
      simp [h]
theorem vat_lp {m : bv_Mem} {v : Nat} {p : Int32} (hv : v ≤ 5) (ev : m 62 2 = nI v) : ∀ (n i X fu : Nat), i + n = v → n < fu → X < 2 ^ 20 → b_X8_villagesAt_4 m fu p (nI X) (nI i) = some (nI (sp_mk (fun j => decide (m 62 (6 + j) = p)) n i X)) := by
  intro n
  induction n with
  | zero =>
    intro i X fu hi hf hX
    obtain ⟨fu, rfl⟩ : ∃ k, fu = k + 1 := ⟨fu - 1, by omega⟩
    rw [b_X8_villagesAt_4, ev, if_pos (nI_le (by omega) (by omega)), sp_mk]
  | succ n ih =>
    intro i X fu hi hf hX
    obtain ⟨fu, rfl⟩ : ∃ k, fu = k + 1 := ⟨fu - 1, by omega⟩
    have e1 : ¬ nI v ≤ nI i := nI_ge (by omega) (by omega)
    have e2 : bv_in (6 + nI i) 371 = true := in_lit (a := 6) (by omega) (by omega)
    have e3 : (6 + nI i).toNatClampNeg = 6 + i := c_lit 6 _ (by omega)
    rw [b_X8_villagesAt_4, ev, if_neg e1, if_pos e2, e3, show nI i + 1 = nI (i + 1) from nI_1 i, nz_or, sp_mk]
    by_cases h : m 62 (6 + i) = p
    · rw [if_pos h, b_one (by omega), nI_or, ih (i + 1) _ fu (by omega) (by omega) (or_lt hX (by omega))]
      simp [h]
    · rw [if_neg h, ih (i + 1) X fu (by omega) (by omega) hX]
      simp [h]
set_option maxHeartbeats 4000000 in
theorem S_ofPlace : bv_S_ofPlace bv_I := by
  intro p w mi hI
  refine lock (F7 := f_X7_ofPlace p w) (F8 := f_X8_ofPlace p w) ?_ mi hI
  intro c m h
  by_cases hp : 0 ≤ p ∧ p ≤ 19
  · obtain ⟨n, hn, rfl⟩ := n_of hp (n := 19) rfl
    have hn : n < 20 := by omega
    have e1 : bv_in (nI n) 20 = true := nb_in (by omega) (by omega)
    have e2 : (nI n).toNatClampNeg = n := nI_clamp (by omega)
    have e3 : bv_in (11 + nI n) 371 = true := in_lit (a := 11) (by omega) (by omega)
    have e4 : (11 + nI n).toNatClampNeg = 11 + n := c_lit 11 _ (by omega)
    have e5 : bv_in (31 + nI n) 371 = true := in_lit (a := 31) (by omega) (by omega)
    have e6 : (31 + nI n).toNatClampNeg = 31 + n := c_lit 31 _ (by omega)
    by_cases hw : 0 ≤ w ∧ w ≤ 5
    · obtain ⟨k, hk, rfl⟩ := n_of hw (n := 5) rfl
      match k, hk with
      | 0, _ =>
        refine out_ro (c 3 n) h ?_ ?_
        · simp [f_X7_ofPlace, pl7, show f_X7_isWithin 0 0 5 c = some 1 from rfl, hp, e1, e2, show nI 0 = 0 from rfl]
        · simp [f_X8_ofPlace, pl8, hp, e3, e4, show nI 0 = 0 from rfl, RJ_h h hn]
      | 1, _ =>
        refine out_ro (c 4 n) h ?_ ?_
        · simp [f_X7_ofPlace, pl7, show f_X7_isWithin 1 0 5 c = some 1 from rfl, hp, e1, e2, show nI 1 = 1 from rfl]
        · simp [f_X8_ofPlace, pl8, hp, e5, e6, show nI 1 = 1 from rfl, RJ_g h hn]
      | 2, _ =>
        have a7 : f_X1_seenFrom (nI n) 0 (nI (sp_gone c 0)) c = some (nI (sp_view (c 3) (th7 c 0) n 0)) := view7g (s := 0) hn (by omega)
        have a8 : f_X8_viewOf (nI n) 0 m = some (nI (sp_view (c 3) (th7 c 0) n 0)) := by
          rw [← view_now h hn]
          exact view8 (s := 0) hn (by omega)
        refine out_ro (nI (sp_view (c 3) (th7 c 0) n 0)) h ?_ ?_
        · simp [f_X7_ofPlace, pl7, show f_X7_isWithin 2 0 5 c = some 1 from rfl, hp, show nI 2 = 2 from rfl, gone7, a7]
        · simp [f_X8_ofPlace, pl8, hp, show nI 2 = 2 from rfl, a8]
      | 3, _ =>
        have a7 : f_X1_seenFrom (nI n) 1 (nI (sp_gone c 0)) c = some (nI (sp_view (c 3) (th7 c 0) n 1)) := view7g (s := 1) hn (by omega)
        have a8 : f_X8_viewOf (nI n) 1 m = some (nI (sp_view (c 3) (th7 c 0) n 1)) := by
          rw [← view_now h hn]
          exact view8 (s := 1) hn (by omega)
        refine out_ro (nI (sp_view (c 3) (th7 c 0) n 1)) h ?_ ?_
        · simp [f_X7_ofPlace, pl7, show f_X7_isWithin 3 0 5 c = some 1 from rfl, hp, show nI 3 = 3 from rfl, gone7, a7]
        · simp [f_X8_ofPlace, pl8, hp, show nI 3 = 3 from rfl, a8]
      | 4, _ =>
        have a7 := sights7 (c := c) (v := 0) hn
        have a8 := sights8 (m := m) hn
        rw [sights_now h hn] at a8
        refine out_ro (nI (sp_sights (c 3) (th7 c 0) n)) h ?_ ?_
        · rw [Option.bind_eq_some_iff] at a7
          obtain ⟨z, z1, z2⟩ := a7
          simp [f_X7_ofPlace, pl7, show f_X7_isWithin 4 0 5 c = some 1 from rfl, hp, show nI 4 = 4 from rfl, gone7, z1, z2]
        · simp [f_X8_ofPlace, pl8, hp, show nI 4 = 4 from rfl, a8]
      | 5, _ =>
        obtain ⟨v, hv, ev⟩ := WJ_vil h
        have ev8 : m 62 2 = nI v := (RJ_v h).trans ev
        have a7 : f_X5_villagesOn (nI n) c = some (nI (sp_mk (fun j => decide (c 5 j = nI n)) v 0 0)) := von_lp hv ev v 0 0 400 (by omega) (by omega) (by decide)
        have a8 : f_X8_villagesAt (nI n) m = some (nI (sp_mk (fun j => decide (c 5 j = nI n)) v 0 0)) := by
          rw [← sp_mk_cg (P := fun j => decide (m 62 (6 + j) = nI n)) (Q := fun j => decide (c 5 j = nI n)) v 0 0 (fun j _ hj => by show decide (m 62 (6 + j) = nI n) = decide (c 5 j = nI n); rw [RJ_at h (by omega)])]
          exact vat_lp hv ev8 v 0 0 400 (by omega) (by omega) (by decide)
        refine out_ro (nI (sp_mk (fun j => decide (c 5 j = nI n)) v 0 0)) h ?_ ?_
        · simp [f_X7_ofPlace, pl7, show f_X7_isWithin 5 0 5 c = some 1 from rfl, hp, show nI 5 = 5 from rfl, a7]
        · simp [f_X8_ofPlace, pl8, hp, show nI 5 = 5 from rfl, a8]
    · have hne : ∀ k : Nat, k ≤ 5 → ¬ w = nI k := fun k hk q => hw (by rw [q]; exact n_in (n := 5) hk rfl (by omega))
      have w0 : ¬ w = 0 := hne 0 (by omega)
      have w1 : ¬ w = 1 := hne 1 (by omega)
      have w2 : ¬ w = 2 := hne 2 (by omega)
      have w3 : ¬ w = 3 := hne 3 (by omega)
      have w4 : ¬ w = 4 := hne 4 (by omega)
      have w5 : ¬ w = 5 := hne 5 (by omega)
      refine out_err 1 (-1000000001) h ?_ ?_
      · simp [f_X7_ofPlace, pl7, win7n hw, hp, x7_e1]
      · simp [f_X8_ofPlace, pl8, hp, w0, w1, w2, w3, w4, w5, x8_e1]
  · refine out_err 1 (-1000000001) h ?_ ?_
    · simp [f_X7_ofPlace, pl7, hp, x7_e1]
    · simp [f_X8_ofPlace, pl8, hp, x8_e1]
