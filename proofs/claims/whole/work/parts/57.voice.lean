-- ===== voices =====
def vc (c m : bv_Mem) (k b mm : Nat) (x z : bv_Mem) : Prop := ((∀ a, a ≠ 47 → a ≠ 48 → x a = c a) ∧ x 47 2 = nI k ∧ x 47 3 = nI b ∧ x 47 4 = nI mm) ∧ ((∀ a, a ≠ 61 → a ≠ 70 → z a = m a) ∧ ∀ j, j ≠ 15 → z 61 j = m 61 j) ∧ ∃ t, t ≤ 40 ∧ x 47 1 = nI t ∧ z 61 15 = nI t ∧ ∀ i, i < 40 → z 70 i = x 48 i
def PQ (V : bv_Mem → bv_Mem → Prop) (A B : bv_F) : Prop := ∀ x z, V x z → ∃ r x' z', A x = some (r, x') ∧ B z = some (r, z') ∧ V x' z'
theorem vc_bg {c m x z : bv_Mem} {k b mm : Nat} {w : Int32} (h : vc c m k b mm x z) : ∃ x' z', f_X6_begin w x = some x' ∧ f_X8_begins w z = some z' ∧ vc c m k b mm x' z' := by
  obtain ⟨⟨h1, h3, h4, h5⟩, ⟨g1, g2⟩, t, ht, e1, e2, e3⟩ := h
  unfold f_X6_begin f_X8_begins
  rw [e1, e2]
  by_cases hq : t = 40
  · subst hq
    rw [if_pos (by decide), if_pos (by decide)]
    exact ⟨x, z, rfl, rfl, ⟨h1, h3, h4, h5⟩, ⟨g1, g2⟩, 40, by omega, e1, e2, e3⟩
  · have n40 : ¬ (40 : Int32) ≤ nI t := nI_ge (b := 40) (by omega) (by omega)
    have i40 : bv_in (nI t) 40 = true := nb_in (by omega) (by omega)
    rw [if_neg n40, if_neg n40, if_pos i40, if_pos i40, nI_clamp (by omega), bv_up_nn (by omega), e1, bv_up_nn (by omega), e2, nI_1]
    refine ⟨_, _, rfl, rfl, ⟨fun a a1 a2 => by rw [bv_up_row a1, bv_up_row a2]; exact h1 a a1 a2, ?_, ?_, ?_⟩, ⟨fun a a1 a2 => by rw [bv_up_row a1, bv_up_row a2]; exact g1 a a1 a2, fun j hj => by rw [bv_up_nn (by omega), bv_up_nn (by omega)]; exact g2 j hj⟩, t + 1, by omega, bv_up_eq, bv_up_eq, fun i hi => ?_⟩
    · rw [bv_up_nn (by omega), bv_up_nn (by omega)]; exact h3
    · rw [bv_up_nn (by omega), bv_up_nn (by omega)]; exact h4
    · rw [bv_up_nn (by omega), bv_up_nn (by omega)]; exact h5
    · rw [bv_up_nn (a := 61) (by omega), bv_up_nn (a := 47) (by omega)]
      by_cases hi2 : i = t
      · subst hi2
        rw [bv_up_eq, bv_up_eq]
      · rw [bv_up_nn (by omega), bv_up_nn (by omega)]
        exact e3 i hi
/-- which body -/
def bf (k a : Nat) : Nat := ((([[10, 11, 12, 13], [20, 11, 12, 13], [10, 30, 12, 13], [10, 11, 40, 13], [20, 11, 12, 50], [10, 60, 12, 13], [10, 11, 70, 71]] : List (List Nat)).getD k []).getD a 0)
theorem bf_0 : ∀ k, k < 7 → ∀ a, a < 4 → b_X6_bodyFrom_4 px_m0 4 (nI a) (nI k) 0 = some (nI (bf k a)) := by decide
theorem bf_m {x y : bv_Mem} {a k i : Int32} : ∀ n, b_X6_bodyFrom_4 x n a k i = b_X6_bodyFrom_4 y n a k i := by
  intro n
  induction n generalizing k i with
  | zero => rfl
  | succ n ih => rw [b_X6_bodyFrom_4, b_X6_bodyFrom_4, ih]
theorem bf_fu {x : bv_Mem} {a k i r : Int32} : ∀ (n d : Nat), b_X6_bodyFrom_4 x n a k i = some r → b_X6_bodyFrom_4 x (n + d) a k i = some r := by
  intro n
  induction n generalizing k i with
  | zero => intro d h; cases h
  | succ n ih =>
    intro d h
    rw [show n + 1 + d = (n + d) + 1 from by omega]
    rw [b_X6_bodyFrom_4] at h ⊢
    by_cases h1 : (7 : Int32) ≤ i
    · rw [if_pos h1] at h ⊢; exact h
    · rw [if_neg h1] at h ⊢
      by_cases h2 : bv_in (k * 4 + a) 28 = true
      · rw [if_pos h2] at h ⊢
        by_cases h3 : bv_x2 (k * 4 + a).toNatClampNeg = 0
        · rw [if_pos h3] at h ⊢
          by_cases h4 : bv_in k 7 = true
          · rw [if_pos h4] at h ⊢; exact ih d h
          · rw [if_neg h4] at h; cases h
        · rw [if_neg h3] at h ⊢; exact h
      · rw [if_neg h2] at h; cases h
theorem bf7 {x : bv_Mem} {k a : Nat} (hk : k < 7) (ha : a < 4) : f_X6_bodyFrom (nI k) (nI a) x = some (nI (bf k a)) :=
  bf_fu 4 396 ((bf_m 4).trans (bf_0 k hk a ha))
section V
variable {c m : bv_Mem} {k b mm : Nat}
theorem ow_st {n a d : Nat} {X : Int32} {B : bv_F} (hk : k < 7) (ha : a < 4) (h : PQ (vc c m k b mm) ((G_X6 n).2.2 (nI (bf k a)) X (nI d)) B) : PQ (vc c m k b mm) ((G_X6 (n + 1)).1 (nI a) X (nI d)) B := by
  intro x z hv
  obtain ⟨r, x', z', h1, h2, h3⟩ := h x z hv
  refine ⟨r, x', z', ?_, h2, h3⟩
  show F_X6_own (G_X6 n).1 (G_X6 n).2.1 (G_X6 n).2.2 (nI a) X (nI d) x = _
  unfold F_X6_own
  rw [hv.1.2.1, bd1 (bf7 hk ha), bd1 h1]
theorem ab_st {n w a d j j' : Nat} {X : Int32} {B : bv_F} (hj : nI w / 10 - 1 = nI j) (hj7 : j < 7) (hx : bv_x1 j = nI j') (hj' : j' < 7) (ha : a < 4) (h : PQ (vc c m k b mm) ((G_X6 n).2.2 (nI (bf j' a)) X (nI d)) B) : PQ (vc c m k b mm) ((G_X6 (n + 1)).2.1 (nI w) (nI a) X (nI d)) B := by
  intro x z hv
  obtain ⟨r, x', z', h1, h2, h3⟩ := h x z hv
  refine ⟨r, x', z', ?_, h2, h3⟩
  show F_X6_above (G_X6 n).1 (G_X6 n).2.1 (G_X6 n).2.2 (nI w) (nI a) X (nI d) x = _
  unfold F_X6_above
  rw [hj, if_pos (nb_in hj7 (by omega)), nI_clamp (by omega), hx, bd1 (bf7 hj' ha), bd1 h1]
theorem of_k {x z : bv_Mem} (hJ : bv_J c m) (hb : b < 8) (ek : c (14 + b) 0 = nI k) (hv : vc c m k b mm x z) : f_X8_of (nI b) 0 z = some (nI k) := by
  have e62 : z 62 = m 62 := hv.2.1.1 62 (by omega) (by omega)
  have := of8 (b := b) (k := 0) hb (by omega) z
  have e2 := RJ_b hJ (b := b) (k := 0) hb (by omega)
  rw [e62, e2, ek] at this
  exact this
theorem of_m {x z : bv_Mem} (hJ : bv_J c m) (hb : b < 8) (em : c (14 + b) 1 = nI mm) (hv : vc c m k b mm x z) : f_X8_of (nI b) 1 z = some (nI mm) := by
  have e62 : z 62 = m 62 := hv.2.1.1 62 (by omega) (by omega)
  have := of8 (b := b) (k := 1) hb (by omega) z
  have e2 := RJ_b hJ (b := b) (k := 1) hb (by omega)
  rw [e62, e2, em] at this
  exact this
/-- a work begins -/
theorem wk_st {n w d : Nat} {X : Int32} {x : bv_Mem} (hd : d ≤ 20) {x1 : bv_Mem} (hx : f_X6_begin (nI w) x = some x1) : (G_X6 (n + 1)).2.2 (nI w) X (nI d) x = (if nI w = (10 : Int32) then
      some ((X + (x1 47 3)), x1)
    else if nI w = (11 : Int32) then
      ((G_X6 n).1 (0 : Int32) X (nI (d + 1)) x1).bind fun z2 =>
      some ((z2.1 * (2 : Int32)), z2.2)
    else if nI w = (12 : Int32) then
      some ((X - (x1 47 4)), x1)
    else if nI w = (13 : Int32) then
      ((G_X6 n).1 (1 : Int32) X (nI (d + 1)) x1).bind fun z3 =>
      ((G_X6 n).1 (2 : Int32) X (nI (d + 1)) z3.2).bind fun z4 =>
      some ((z3.1 ^^^ z4.1), z4.2)
    else if nI w = (20 : Int32) then
      ((G_X6 n).2.1 (nI w) (0 : Int32) X (nI (d + 1)) x1).bind fun z5 =>
      some ((z5.1 * (3 : Int32)), z5.2)
    else if nI w = (30 : Int32) then
      ((G_X6 n).2.1 (nI w) (1 : Int32) X (nI (d + 1)) x1).bind fun z6 =>
      ((G_X6 n).1 (2 : Int32) (1 : Int32) (nI (d + 1)) z6.2).bind fun z7 =>
      some ((z6.1 - z7.1), z7.2)
    else if nI w = (40 : Int32) then
      ((G_X6 n).2.1 (nI w) (2 : Int32) X (nI (d + 1)) x1).bind fun z8 =>
      some ((-z8.1), z8.2)
    else if nI w = (50 : Int32) then
      ((G_X6 n).2.1 (nI w) (3 : Int32) X (nI (d + 1)) x1).bind fun z9 =>
      ((G_X6 n).1 (0 : Int32) (2 : Int32) (nI (d + 1)) z9.2).bind fun z10 =>
      some ((z9.1 - z10.1), z10.2)
    else if nI w = (60 : Int32) then
      ((G_X6 n).2.1 (nI w) (1 : Int32) (X + (1 : Int32)) (nI (d + 1)) x1).bind fun z11 =>
      some (z11.1, z11.2)
    else if nI w = (70 : Int32) then
      ((G_X6 n).2.1 (nI w) (2 : Int32) X (nI (d + 1)) x1).bind fun z12 =>
      some ((z12.1 ^^^ (z12.2 47 3)), z12.2)
    else if nI w = (71 : Int32) then
      ((G_X6 n).1 (1 : Int32) X (nI (d + 1)) x1).bind fun z13 =>
      ((G_X6 n).2.1 (nI w) (3 : Int32) X (nI (d + 1)) z13.2).bind fun z14 =>
      some ((z13.1 - z14.1), z14.2)
    else
    some ((0 : Int32), x1)) := by
  have e20 : nI d ≤ 20 := nI_le (b := 20) hd (by omega)
  show F_X6_work (G_X6 n).1 (G_X6 n).2.1 (G_X6 n).2.2 (nI w) X (nI d) x = _
  unfold F_X6_work
  rw [if_pos e20, bd1 hx, show nI d + 1 = nI (d + 1) from nI_1 d]
theorem w10 {n d : Nat} {X : Int32} (hd : d ≤ 20) : PQ (vc c m k b mm) ((G_X6 (n + 1)).2.2 (nI 10) X (nI d)) (f_X8_plainPours (nI b) X) := by
  intro x z hv
  obtain ⟨x1, z1, g1, g2, g3⟩ := vc_bg (w := nI 10) hv
  refine ⟨X + nI b, x1, z1, ?_, ?_, g3⟩
  · rw [wk_st hd g1, if_pos (by decide), g3.1.2.2.1]
  · unfold f_X8_plainPours
    have g2' : f_X8_begins 10 z = some z1 := g2
    rw [bd1 g2']
theorem w12 {n d : Nat} {X : Int32} (hJ : bv_J c m) (hb : b < 8) (em : c (14 + b) 1 = nI mm) (hd : d ≤ 20) : PQ (vc c m k b mm) ((G_X6 (n + 1)).2.2 (nI 12) X (nI d)) (f_X8_plainAges (nI b) X) := by
  intro x z hv
  obtain ⟨x1, z1, g1, g2, g3⟩ := vc_bg (w := nI 12) hv
  refine ⟨X - nI mm, x1, z1, ?_, ?_, g3⟩
  · rw [wk_st hd g1, if_neg (by decide), if_neg (by decide), if_pos (by decide), g3.1.2.2.2]
  · unfold f_X8_plainAges
    have g2' : f_X8_begins 12 z = some z1 := g2
    rw [bd1 g2', bd1 (of_m hJ hb em g3)]
/-- pours -/
theorem o_po {n d : Nat} {X : Int32} (hJ : bv_J c m) (hb : b < 8) (hk : k < 7) (ek : c (14 + b) 0 = nI k) (hd : d ≤ 10) : PQ (vc c m k b mm) ((G_X6 (n + 4)).1 0 X (nI d)) (f_X8_pours (nI b) X) := by
  have plain : bf k 0 = 10 → (∀ z, f_X8_of (nI b) 0 z = some (nI k) → f_X8_pours (nI b) X z = (f_X8_plainPours (nI b) X z).bind fun z4 => some (z4.1, z4.2)) → PQ (vc c m k b mm) ((G_X6 (n + 4)).1 0 X (nI d)) (f_X8_pours (nI b) X) := by
    intro e hp
    refine ow_st (n := n + 3) (a := 0) hk (by omega) ?_
    rw [e]
    intro x z hv
    obtain ⟨r, x', z', h1, h2, h3⟩ := w10 (n := n + 2) (d := d) (X := X) (by omega) x z hv
    exact ⟨r, x', z', h1, by rw [hp z (of_k hJ hb ek hv), bd1 h2], h3⟩
  have blue : bf k 0 = 20 → (∀ z, f_X8_of (nI b) 0 z = some (nI k) → f_X8_pours (nI b) X z = (f_X8_begins 20 z).bind fun z2 => (f_X8_plainPours (nI b) X z2).bind fun z3 => some ((z3.1 * (3 : Int32)), z3.2)) → PQ (vc c m k b mm) ((G_X6 (n + 4)).1 0 X (nI d)) (f_X8_pours (nI b) X) := by
    intro e hp
    refine ow_st (n := n + 3) (a := 0) hk (by omega) ?_
    rw [e]
    intro x z hv
    obtain ⟨x1, z1, g1, g2, g3⟩ := vc_bg (w := nI 20) hv
    have g2' : f_X8_begins 20 z = some z1 := g2
    have ab := ab_st (c := c) (m := m) (k := k) (b := b) (mm := mm) (n := n + 1) (w := 20) (a := 0) (d := d + 1) (j := 1) (j' := 0) (X := X) (by decide) (by omega) (by decide) (by omega) (by omega) (w10 (n := n) (by omega))
    obtain ⟨r, x', z', h1, h2, h3⟩ := ab x1 z1 g3
    have h1' : (G_X6 (n + 2)).2.1 (nI 20) 0 X (nI (d + 1)) x1 = some (r, x') := h1
    refine ⟨r * 3, x', z', ?_, by rw [hp z (of_k hJ hb ek hv), bd1 g2', bd1 h2], h3⟩
    rw [wk_st (by omega) g1, if_neg (by decide), if_neg (by decide), if_neg (by decide), if_neg (by decide), if_pos (by decide), bd1 h1']
  match k, hk with
  | 0, _ => exact plain rfl (fun z hz => by unfold f_X8_pours; rw [bd1 hz, if_neg (by decide), if_neg (by decide)])
  | 1, _ => exact blue rfl (fun z hz => by unfold f_X8_pours; rw [bd1 hz, if_pos (by decide)])
  | 2, _ => exact plain rfl (fun z hz => by unfold f_X8_pours; rw [bd1 hz, if_neg (by decide), if_neg (by decide)])
  | 3, _ => exact plain rfl (fun z hz => by unfold f_X8_pours; rw [bd1 hz, if_neg (by decide), if_neg (by decide)])
  | 4, _ => exact blue rfl (fun z hz => by unfold f_X8_pours; rw [bd1 hz, if_neg (by decide), if_pos (by decide)])
  | 5, _ => exact plain rfl (fun z hz => by unfold f_X8_pours; rw [bd1 hz, if_neg (by decide), if_neg (by decide)])
  | 6, _ => exact plain rfl (fun z hz => by unfold f_X8_pours; rw [bd1 hz, if_neg (by decide), if_neg (by decide)])
/-- old ages -/
theorem w40 {n d : Nat} {X : Int32} (hJ : bv_J c m) (hb : b < 8) (em : c (14 + b) 1 = nI mm) (hd : d ≤ 15) : PQ (vc c m k b mm) ((G_X6 (n + 3)).2.2 (nI 40) X (nI d)) (f_X8_oldAges (nI b) X) := by
  intro x z hv
  obtain ⟨x1, z1, g1, g2, g3⟩ := vc_bg (w := nI 40) hv
  have g2' : f_X8_begins 40 z = some z1 := g2
  have ab := ab_st (c := c) (m := m) (k := k) (b := b) (mm := mm) (n := n + 1) (w := 40) (a := 2) (d := d + 1) (j := 3) (j' := 0) (X := X) (by decide) (by omega) (by decide) (by omega) (by omega) (w12 (n := n) hJ hb em (by omega))
  obtain ⟨r, x', z', h1, h2, h3⟩ := ab x1 z1 g3
  have h1' : (G_X6 (n + 2)).2.1 (nI 40) 2 X (nI (d + 1)) x1 = some (r, x') := h1
  refine ⟨-r, x', z', ?_, by unfold f_X8_oldAges; rw [bd1 g2', bd1 h2], h3⟩
  rw [wk_st (by omega) g1, if_neg (by decide), if_neg (by decide), if_neg (by decide), if_neg (by decide), if_neg (by decide), if_neg (by decide), if_pos (by decide), bd1 h1']
theorem o_ag {n d : Nat} {X : Int32} (hJ : bv_J c m) (hb : b < 8) (hk : k < 7) (ek : c (14 + b) 0 = nI k) (em : c (14 + b) 1 = nI mm) (hd : d ≤ 10) : PQ (vc c m k b mm) ((G_X6 (n + 6)).1 2 X (nI d)) (f_X8_ages (nI b) X) := by
  have plain : bf k 2 = 12 → (∀ z, f_X8_of (nI b) 0 z = some (nI k) → f_X8_ages (nI b) X z = (f_X8_plainAges (nI b) X z).bind fun z4 => some (z4.1, z4.2)) → PQ (vc c m k b mm) ((G_X6 (n + 6)).1 2 X (nI d)) (f_X8_ages (nI b) X) := by
    intro e hp
    refine ow_st (n := n + 5) (a := 2) hk (by omega) ?_
    rw [e]
    intro x z hv
    obtain ⟨r, x', z', h1, h2, h3⟩ := w12 (n := n + 4) (d := d) (X := X) hJ hb em (by omega) x z hv
    exact ⟨r, x', z', h1, by rw [hp z (of_k hJ hb ek hv), bd1 h2], h3⟩
  match k, hk, plain with
  | 0, _, plain => exact plain rfl (fun z hz => by unfold f_X8_ages; rw [bd1 hz, if_neg (by decide), if_neg (by decide)])
  | 1, _, plain => exact plain rfl (fun z hz => by unfold f_X8_ages; rw [bd1 hz, if_neg (by decide), if_neg (by decide)])
  | 2, _, plain => exact plain rfl (fun z hz => by unfold f_X8_ages; rw [bd1 hz, if_neg (by decide), if_neg (by decide)])
  | 4, _, plain => exact plain rfl (fun z hz => by unfold f_X8_ages; rw [bd1 hz, if_neg (by decide), if_neg (by decide)])
  | 5, _, plain => exact plain rfl (fun z hz => by unfold f_X8_ages; rw [bd1 hz, if_neg (by decide), if_neg (by decide)])
  | 3, _, _ =>
    refine ow_st (n := n + 5) (a := 2) (by omega) (by omega) ?_
    intro x z hv
    obtain ⟨r, x', z', h1, h2, h3⟩ := w40 (n := n + 2) (d := d) (X := X) hJ hb em (by omega) x z hv
    exact ⟨r, x', z', h1, by unfold f_X8_ages; rw [bd1 (of_k hJ hb ek hv), if_neg (by decide), if_pos (by decide), bd1 h2], h3⟩
  | 6, _, _ =>
    refine ow_st (n := n + 5) (a := 2) (by omega) (by omega) ?_
    intro x z hv
    obtain ⟨x1, z1, g1, g2, g3⟩ := vc_bg (w := nI 70) hv
    have g2' : f_X8_begins 70 z = some z1 := g2
    have ab := ab_st (c := c) (m := m) (k := 6) (b := b) (mm := mm) (n := n + 3) (w := 70) (a := 2) (d := d + 1) (j := 6) (j' := 3) (X := X) (by decide) (by omega) (by decide) (by omega) (by omega) (w40 (n := n) hJ hb em (by omega))
    obtain ⟨r, x', z', h1, h2, h3⟩ := ab x1 z1 g3
    have h1' : (G_X6 (n + 4)).2.1 (nI 70) 2 X (nI (d + 1)) x1 = some (r, x') := h1
    refine ⟨r ^^^ nI b, x', z', ?_, by unfold f_X8_ages; rw [bd1 (of_k hJ hb ek hv), if_pos (by decide), bd1 g2', bd1 h2], h3⟩
    show (G_X6 (n + 4 + 1)).2.2 (nI 70) X (nI d) x = _
    rw [wk_st (by omega) g1, if_neg (by decide), if_neg (by decide), if_neg (by decide), if_neg (by decide), if_neg (by decide), if_neg (by decide), if_neg (by decide), if_neg (by decide), if_neg (by decide), if_pos (by decide), bd1 h1']
    dsimp only
    rw [h3.1.2.2.1]
theorem w11 {n d : Nat} {X : Int32} (hJ : bv_J c m) (hb : b < 8) (hk : k < 7) (ek : c (14 + b) 0 = nI k) (hd : d ≤ 9) : PQ (vc c m k b mm) ((G_X6 (n + 5)).2.2 (nI 11) X (nI d)) (f_X8_plainCosts (nI b) X) := by
  intro x z hv
  obtain ⟨x1, z1, g1, g2, g3⟩ := vc_bg (w := nI 11) hv
  have g2' : f_X8_begins 11 z = some z1 := g2
  obtain ⟨r, x', z', h1, h2, h3⟩ := o_po (mm := mm) (n := n) (d := d + 1) (X := X) hJ hb hk ek (by omega) x1 z1 g3
  refine ⟨r * 2, x', z', ?_, by unfold f_X8_plainCosts; rw [bd1 g2', bd1 h2], h3⟩
  rw [wk_st (by omega) g1, if_neg (by decide), if_pos (by decide), bd1 h1]
theorem w30 {n d : Nat} {X : Int32} (hJ : bv_J c m) (hb : b < 8) (hk : k < 7) (ek : c (14 + b) 0 = nI k) (em : c (14 + b) 1 = nI mm) (hd : d ≤ 8) : PQ (vc c m k b mm) ((G_X6 (n + 7)).2.2 (nI 30) X (nI d)) (f_X8_cutCosts (nI b) X) := by
  intro x z hv
  obtain ⟨x1, z1, g1, g2, g3⟩ := vc_bg (w := nI 30) hv
  have g2' : f_X8_begins 30 z = some z1 := g2
  have ab := ab_st (c := c) (m := m) (k := k) (b := b) (mm := mm) (n := n + 5) (w := 30) (a := 1) (d := d + 1) (j := 2) (j' := 0) (X := X) (by decide) (by omega) (by decide) (by omega) (by omega) (w11 (n := n) hJ hb hk ek (by omega))
  obtain ⟨r, x', z', h1, h2, h3⟩ := ab x1 z1 g3
  have h1' : (G_X6 (n + 6)).2.1 (nI 30) 1 X (nI (d + 1)) x1 = some (r, x') := h1
  obtain ⟨r2, x2, z2, q1, q2, q3⟩ := o_ag (n := n) (d := d + 1) (X := 1) hJ hb hk ek em (by omega) x' z' h3
  refine ⟨r - r2, x2, z2, ?_, by unfold f_X8_cutCosts; rw [bd1 g2', bd1 h2, bd1 q2], q3⟩
  rw [wk_st (by omega) g1, if_neg (by decide), if_neg (by decide), if_neg (by decide), if_neg (by decide), if_neg (by decide), if_pos (by decide), bd1 h1', bd1 q1]
theorem o_co {n d : Nat} {X : Int32} (hJ : bv_J c m) (hb : b < 8) (hk : k < 7) (ek : c (14 + b) 0 = nI k) (em : c (14 + b) 1 = nI mm) (hd : d ≤ 6) : PQ (vc c m k b mm) ((G_X6 (n + 10)).1 1 X (nI d)) (f_X8_costs (nI b) X) := by
  have plain : bf k 1 = 11 → (∀ z, f_X8_of (nI b) 0 z = some (nI k) → f_X8_costs (nI b) X z = (f_X8_plainCosts (nI b) X z).bind fun z4 => some (z4.1, z4.2)) → PQ (vc c m k b mm) ((G_X6 (n + 10)).1 1 X (nI d)) (f_X8_costs (nI b) X) := by
    intro e hp
    refine ow_st (n := n + 9) (a := 1) hk (by omega) ?_
    rw [e]
    intro x z hv
    obtain ⟨r, x', z', h1, h2, h3⟩ := w11 (mm := mm) (n := n + 4) (d := d) (X := X) hJ hb hk ek (by omega) x z hv
    exact ⟨r, x', z', h1, by rw [hp z (of_k hJ hb ek hv), bd1 h2], h3⟩
  match k, hk, plain, ek with
  | 0, _, plain, _ => exact plain rfl (fun z hz => by unfold f_X8_costs; rw [bd1 hz, if_neg (by decide), if_neg (by decide)])
  | 1, _, plain, _ => exact plain rfl (fun z hz => by unfold f_X8_costs; rw [bd1 hz, if_neg (by decide), if_neg (by decide)])
  | 3, _, plain, _ => exact plain rfl (fun z hz => by unfold f_X8_costs; rw [bd1 hz, if_neg (by decide), if_neg (by decide)])
  | 4, _, plain, _ => exact plain rfl (fun z hz => by unfold f_X8_costs; rw [bd1 hz, if_neg (by decide), if_neg (by decide)])
  | 6, _, plain, _ => exact plain rfl (fun z hz => by unfold f_X8_costs; rw [bd1 hz, if_neg (by decide), if_neg (by decide)])
  | 2, hk, _, ek =>
    refine ow_st (n := n + 9) (a := 1) (by omega) (by omega) ?_
    intro x z hv
    obtain ⟨r, x', z', h1, h2, h3⟩ := w30 (n := n + 2) (d := d) (X := X) hJ hb hk ek em (by omega) x z hv
    exact ⟨r, x', z', h1, by unfold f_X8_costs; rw [bd1 (of_k hJ hb ek hv), if_neg (by decide), if_pos (by decide), bd1 h2], h3⟩
  | 5, hk, _, ek =>
    refine ow_st (n := n + 9) (a := 1) (by omega) (by omega) ?_
    intro x z hv
    obtain ⟨x1, z1, g1, g2, g3⟩ := vc_bg (w := nI 60) hv
    have g2' : f_X8_begins 60 z = some z1 := g2
    have ab := ab_st (c := c) (m := m) (k := 5) (b := b) (mm := mm) (n := n + 7) (w := 60) (a := 1) (d := d + 1) (j := 5) (j' := 2) (X := X + 1) (by decide) (by omega) (by decide) (by omega) (by omega) (w30 (n := n) hJ hb hk ek em (by omega))
    obtain ⟨r, x', z', h1, h2, h3⟩ := ab x1 z1 g3
    have h1' : (G_X6 (n + 8)).2.1 (nI 60) 1 (X + 1) (nI (d + 1)) x1 = some (r, x') := h1
    refine ⟨r, x', z', ?_, by unfold f_X8_costs; rw [bd1 (of_k hJ hb ek hv), if_pos (by decide), bd1 g2', bd1 h2], h3⟩
    show (G_X6 (n + 8 + 1)).2.2 (nI 60) X (nI d) x = _
    rw [wk_st (by omega) g1, if_neg (by decide), if_neg (by decide), if_neg (by decide), if_neg (by decide), if_neg (by decide), if_neg (by decide), if_neg (by decide), if_neg (by decide), if_pos (by decide), bd1 h1']
theorem w13 {n d : Nat} {X : Int32} (hJ : bv_J c m) (hb : b < 8) (hk : k < 7) (ek : c (14 + b) 0 = nI k) (em : c (14 + b) 1 = nI mm) (hd : d ≤ 5) : PQ (vc c m k b mm) ((G_X6 (n + 11)).2.2 (nI 13) X (nI d)) (f_X8_plainTells (nI b) X) := by
  intro x z hv
  obtain ⟨x1, z1, g1, g2, g3⟩ := vc_bg (w := nI 13) hv
  have g2' : f_X8_begins 13 z = some z1 := g2
  obtain ⟨r, x', z', h1, h2, h3⟩ := o_co (n := n) (d := d + 1) (X := X) hJ hb hk ek em (by omega) x1 z1 g3
  obtain ⟨r2, x2, z2, q1, q2, q3⟩ := o_ag (n := n + 4) (d := d + 1) (X := X) hJ hb hk ek em (by omega) x' z' h3
  refine ⟨r ^^^ r2, x2, z2, ?_, by unfold f_X8_plainTells; rw [bd1 g2', bd1 h2, bd1 q2], q3⟩
  rw [wk_st (by omega) g1, if_neg (by decide), if_neg (by decide), if_neg (by decide), if_pos (by decide), bd1 h1, bd1 q1]
theorem o_te {n d : Nat} {X : Int32} (hJ : bv_J c m) (hb : b < 8) (hk : k < 7) (ek : c (14 + b) 0 = nI k) (em : c (14 + b) 1 = nI mm) (hd : d ≤ 3) : PQ (vc c m k b mm) ((G_X6 (n + 14)).1 3 X (nI d)) (f_X8_tells (nI b) X) := by
  have plain : bf k 3 = 13 → (∀ z, f_X8_of (nI b) 0 z = some (nI k) → f_X8_tells (nI b) X z = (f_X8_plainTells (nI b) X z).bind fun z4 => some (z4.1, z4.2)) → PQ (vc c m k b mm) ((G_X6 (n + 14)).1 3 X (nI d)) (f_X8_tells (nI b) X) := by
    intro e hp
    refine ow_st (n := n + 13) (a := 3) hk (by omega) ?_
    rw [e]
    intro x z hv
    obtain ⟨r, x', z', h1, h2, h3⟩ := w13 (n := n + 2) (d := d) (X := X) hJ hb hk ek em (by omega) x z hv
    exact ⟨r, x', z', h1, by rw [hp z (of_k hJ hb ek hv), bd1 h2], h3⟩
  match k, hk, plain, ek with
  | 0, _, plain, _ => exact plain rfl (fun z hz => by unfold f_X8_tells; rw [bd1 hz, if_neg (by decide), if_neg (by decide)])
  | 1, _, plain, _ => exact plain rfl (fun z hz => by unfold f_X8_tells; rw [bd1 hz, if_neg (by decide), if_neg (by decide)])
  | 2, _, plain, _ => exact plain rfl (fun z hz => by unfold f_X8_tells; rw [bd1 hz, if_neg (by decide), if_neg (by decide)])
  | 3, _, plain, _ => exact plain rfl (fun z hz => by unfold f_X8_tells; rw [bd1 hz, if_neg (by decide), if_neg (by decide)])
  | 5, _, plain, _ => exact plain rfl (fun z hz => by unfold f_X8_tells; rw [bd1 hz, if_neg (by decide), if_neg (by decide)])
  | 4, hk, _, ek =>
    refine ow_st (n := n + 13) (a := 3) (by omega) (by omega) ?_
    intro x z hv
    obtain ⟨x1, z1, g1, g2, g3⟩ := vc_bg (w := nI 50) hv
    have g2' : f_X8_begins 50 z = some z1 := g2
    have ab := ab_st (c := c) (m := m) (k := 4) (b := b) (mm := mm) (n := n + 11) (w := 50) (a := 3) (d := d + 1) (j := 4) (j' := 1) (X := X) (by decide) (by omega) (by decide) (by omega) (by omega) (w13 (n := n) hJ hb hk ek em (by omega))
    obtain ⟨r, x', z', h1, h2, h3⟩ := ab x1 z1 g3
    have h1' : (G_X6 (n + 12)).2.1 (nI 50) 3 X (nI (d + 1)) x1 = some (r, x') := h1
    obtain ⟨r2, x2, z2, q1, q2, q3⟩ := o_po (n := n + 8) (d := d + 1) (X := 2) hJ hb hk ek (by omega) x' z' h3
    refine ⟨r - r2, x2, z2, ?_, by unfold f_X8_tells; rw [bd1 (of_k hJ hb ek hv), if_pos (by decide), bd1 g2', bd1 h2, bd1 q2], q3⟩
    show (G_X6 (n + 12 + 1)).2.2 (nI 50) X (nI d) x = _
    rw [wk_st (by omega) g1, if_neg (by decide), if_neg (by decide), if_neg (by decide), if_neg (by decide), if_neg (by decide), if_neg (by decide), if_neg (by decide), if_pos (by decide), bd1 h1', bd1 q1]
  | 6, hk, _, ek =>
    refine ow_st (n := n + 13) (a := 3) (by omega) (by omega) ?_
    intro x z hv
    obtain ⟨x1, z1, g1, g2, g3⟩ := vc_bg (w := nI 71) hv
    have g2' : f_X8_begins 71 z = some z1 := g2
    obtain ⟨r, x', z', h1, h2, h3⟩ := o_co (n := n + 2) (d := d + 1) (X := X) hJ hb hk ek em (by omega) x1 z1 g3
    have ab := ab_st (c := c) (m := m) (k := 6) (b := b) (mm := mm) (n := n + 11) (w := 71) (a := 3) (d := d + 1) (j := 6) (j' := 3) (X := X) (by decide) (by omega) (by decide) (by omega) (by omega) (w13 (n := n) hJ hb hk ek em (by omega))
    obtain ⟨r2, x2, z2, q1, q2, q3⟩ := ab x' z' h3
    have q1' : (G_X6 (n + 12)).2.1 (nI 71) 3 X (nI (d + 1)) x' = some (r2, x2) := q1
    refine ⟨r - r2, x2, z2, ?_, by unfold f_X8_tells; rw [bd1 (of_k hJ hb ek hv), if_neg (by decide), if_pos (by decide), bd1 g2', bd1 h2, bd1 q2], q3⟩
    show (G_X6 (n + 12 + 1)).2.2 (nI 71) X (nI d) x = _
    rw [wk_st (by omega) g1, if_neg (by decide), if_neg (by decide), if_neg (by decide), if_neg (by decide), if_neg (by decide), if_neg (by decide), if_neg (by decide), if_neg (by decide), if_neg (by decide), if_neg (by decide), if_pos (by decide), bd1 h1, bd1 q1']
theorem J_vc {x z : bv_Mem} (h : bv_J c m) (hv : vc c m k b mm x z) : bv_J x z := by
  obtain ⟨⟨h1, -, -, -⟩, ⟨g1, g2⟩, t, ht, e1, e2, e3⟩ := hv
  obtain ⟨⟨j1, j2⟩, j3, j5, j6, -⟩ := h
  refine ⟨⟨j1.cg (fun a q1 q2 => h1 a (by omega) (by omega)), j2.cg (fun a q1 q2 => h1 a (by omega) (by omega)) (g1 62 (by omega) (by omega))⟩, j3.cg (by rw [h1 0 (by omega) (by omega)]) (g2 3 (by omega)) (fun a q1 q2 => h1 a (by omega) (by omega)) (g1 63 (by omega) (by omega)), j5.cg (h1 50 (by omega) (by omega)) (g1 65 (by omega) (by omega)), j6.cg (fun a q1 q2 => h1 a (by omega) (by omega)) (fun a q1 q2 => g1 a (by omega) (by omega)), ?_, ⟨t, ht, e1⟩, e3⟩
  rw [e1, e2]
end V
theorem vo_ok {c m : bv_Mem} {f b k mm Q N : Nat} {X a : Int32} {B : bv_F} (h : bv_J c m) (hf : f ≤ 8) (ef : c 1 4 = nI f) (hb : b < f) (hQ : Q ≤ 3) (hN : N = 60) (ha : a = nI Q) (ek : c (14 + b) 0 = nI k) (em : c (14 + b) 1 = nI mm) (hB : PQ (vc c m k b mm) ((G_X6 N).1 a X (nI 0)) B) (h8 : f_X8_voice (nI b) (nI Q) X m = ((B (bv_up m 61 15 0)).bind fun z => some (z.1, z.2))) : bv_out (f_X7_voice (nI b) (nI Q) X) (f_X8_voice (nI b) (nI Q) X) c m := by
  subst hN
  subst ha
  obtain ⟨r1, r2⟩ := bo_rf b (by omega)
  obtain ⟨j61, ⟨t0, ht0, et0⟩, j70⟩ := h.2.2.2.2
  have k7 : f_X7_isWithin (nI Q) 0 3 c = some 1 := by rw [win7, if_pos (n_in hQ (n := 3) rfl (by omega))]
  have v0 : vc c m k b mm (bv_up (bv_up (bv_up (bv_up c 47 1 (0 : Int32)) 47 2 (nI k)) 47 3 (nI b)) 47 4 (nI mm)) (bv_up m 61 15 0) := by
    refine ⟨⟨fun a a1 a2 => by rw [bv_up_row a1, bv_up_row a1, bv_up_row a1, bv_up_row a1], ?_, ?_, bv_up_eq⟩, ⟨fun a a1 a2 => bv_up_row a1, fun j hj => bv_up_nn (by omega)⟩, 0, by omega, ?_, ?_, fun i hi => ?_⟩
    · rw [bv_up_nn (by omega), bv_up_nn (by omega), bv_up_eq]
    · rw [bv_up_nn (by omega), bv_up_eq]
    · rw [bv_up_nn (by omega), bv_up_nn (by omega), bv_up_nn (by omega), bv_up_eq]; rfl
    · rw [bv_up_eq]; rfl
    · rw [bv_up_row (by omega), bv_up_row (by omega), bv_up_row (by omega), bv_up_row (by omega), bv_up_row (by omega)]
      exact j70 i hi
  obtain ⟨r, x', z', g1, g2, g3⟩ := hB _ _ v0
  have sp : f_X6_speak (nI k) (nI b) (nI mm) (nI Q) X c = some (r, x') := by
    rw [nI_0] at g1
    unfold f_X6_speak
    rw [bd1 g1]
  refine ⟨r, x', z', ?_, by rw [h8, bd1 g2], J_vc h g3, fun a ha => g3.1.1 a (by omega) (by omega), fun a ha => g3.2.1.1 a (by omega) (by omega)⟩
  unfold f_X7_voice
  rw [bd1 (bo7t hf ef hb), if_neg (by decide), bd1 k7, if_neg (by decide), if_pos (nb_in (by omega) (by omega)), nI_clamp (by omega), bd1 r1, if_pos r2, ek, em, bd1 sp]
theorem S_voice : bv_S_voice bv_I := by
  intro p q X mi hI
  refine lock (F7 := f_X7_voice p q X) (F8 := f_X8_voice p q X) ?_ mi hI
  intro c m h
  obtain ⟨f, hf, ef⟩ := WJ_fil h
  have ef8 : m 62 3 = nI f := (RJ_f h).trans ef
  by_cases hp : 0 ≤ p ∧ p ≤ nI f - 1
  · obtain ⟨b, hb, rfl⟩ := n_of1 hp (by omega)
    obtain ⟨r1, r2⟩ := bo_rf b (by omega)
    by_cases hq : 0 ≤ q ∧ q ≤ 3
    · obtain ⟨Q, hQ, rfl⟩ := n_of hq (n := 3) rfl
      have k7 : f_X7_isWithin (nI Q) 0 3 c = some 1 := by rw [win7, if_pos hq]
      have k8 : f_X8_in (nI Q) 0 3 m = some 1 := by rw [win8, if_pos hq]
      obtain ⟨⟨k, hk, ek⟩, ⟨mm, hmm, em⟩, -, -, -, -⟩ := WJ_b h (b := b) (by omega)
      obtain ⟨j61, ⟨t0, ht0, et0⟩, j70⟩ := h.2.2.2.2
      have hQ4 : Q = 0 ∨ Q = 1 ∨ Q = 2 ∨ Q = 3 := by omega
      rcases hQ4 with rfl | rfl | rfl | rfl
      · refine vo_ok (N := 56 + 4) (a := 0) h hf ef hb hQ rfl rfl ek em (o_po (n := 56) h (by omega) hk ek (by omega)) ?_
        unfold f_X8_voice
        rw [bd1 (bo8t hf ef8 hb), if_neg (by decide), bd1 k8, if_neg (by decide), if_pos (by decide)]
      · refine vo_ok (N := 50 + 10) (a := 1) h hf ef hb hQ rfl rfl ek em (o_co (n := 50) h (by omega) hk ek em (by omega)) ?_
        unfold f_X8_voice
        rw [bd1 (bo8t hf ef8 hb), if_neg (by decide), bd1 k8, if_neg (by decide), if_neg (by decide), if_pos (by decide)]
      · refine vo_ok (N := 54 + 6) (a := 2) h hf ef hb hQ rfl rfl ek em (o_ag (n := 54) h (by omega) hk ek em (by omega)) ?_
        unfold f_X8_voice
        rw [bd1 (bo8t hf ef8 hb), if_neg (by decide), bd1 k8, if_neg (by decide), if_neg (by decide), if_neg (by decide), if_pos (by decide)]
      · refine vo_ok (N := 46 + 14) (a := 3) h hf ef hb hQ rfl rfl ek em (o_te (n := 46) h (by omega) hk ek em (by omega)) ?_
        unfold f_X8_voice
        rw [bd1 (bo8t hf ef8 hb), if_neg (by decide), bd1 k8, if_neg (by decide), if_neg (by decide), if_neg (by decide), if_neg (by decide)]
    · have k7 : f_X7_isWithin q 0 3 c = some 0 := by rw [win7, if_neg hq]
      have k8 : f_X8_in q 0 3 m = some 0 := by rw [win8, if_neg hq]
      refine out_err 1 (-1000000001) h ?_ ?_
      · unfold f_X7_voice
        rw [bd1 (bo7t hf ef hb), if_neg (by decide), bd1 k7, if_pos rfl, bd1 (x7_e1 c)]
      · unfold f_X8_voice
        rw [bd1 (bo8t hf ef8 hb), if_neg (by decide), bd1 k8, if_pos rfl, bd1 (x8_e1 m)]
  · have p7 : f_X7_isBottle p c = some 0 := by rw [bo7, ef, if_neg hp]
    have p8 : f_X8_isBottle p m = some 0 := by rw [bo8, ef8, if_neg hp]
    refine out_err 1 (-1000000001) h ?_ ?_
    · unfold f_X7_voice
      rw [bd1 p7, if_pos rfl, bd1 (x7_e1 c)]
    · unfold f_X8_voice
      rw [bd1 p8, if_pos rfl, bd1 (x8_e1 m)]
