-- ===== how the reference reads a text =====
abbrev px_L : Type := List (Int32 × Int32)
def q8f (m z : bv_Mem) : Prop := (∀ a, a ≠ 61 → a ≠ 66 → a ≠ 67 → z a = m a) ∧ ∀ k, k < 9 ∨ 13 < k → z 61 k = m 61 k
def q8 (u : Nat) (m z : bv_Mem) (i op : Nat) (code : px_L) : Prop := q8f m z ∧ z 61 10 = nI i ∧ z 61 9 = nI code.length ∧ z 61 11 = nI op ∧ z 61 12 = 0 ∧ z 61 13 = nI u ∧ ∀ k, k < code.length → z 66 k = (code.getD k (0, 0)).1 ∧ z 67 k = (code.getD k (0, 0)).2
def b8 (m z : bv_Mem) (i : Nat) : Prop := q8f m z ∧ z 61 10 = nI i ∧ z 61 12 = 1 ∧ ∃ L, L ≤ 50 ∧ z 61 9 = nI L
def e8 (n : Nat) (src : Nat → Int32) (m : bv_Mem) : Prop := n ≤ 50 ∧ m 62 4 = nI n ∧ ∀ i, i < n → m 62 (99 + i) = src i
def s8 (n u : Nat) (m : bv_Mem) (op : Nat) (px : Nat → px_R) (R : bv_Mem → Option bv_Mem) : Prop := ∀ (i : Nat) (z : bv_Mem) (code : px_L), i ≤ n → code.length ≤ i → q8 u m z i op code → ((px i).2.1 = true → ∃ z', R z = some z' ∧ q8 u m z' (px i).1 op (code ++ (px i).2.2)) ∧ ((px i).2.1 = false → ∃ z', R z = some z' ∧ b8 m z' (px i).1)
theorem q8f_up {m z : bv_Mem} (h : q8f m z) {k : Nat} {v : Int32} (hk : 9 ≤ k ∧ k ≤ 13) : q8f m (bv_up z 61 k v) :=
  ⟨fun a h1 h2 h3 => by rw [bv_up_row h1]; exact h.1 a h1 h2 h3, fun j hj => by rw [bv_up_nn (by omega)]; exact h.2 j hj⟩
theorem q8f_cd {m z : bv_Mem} (h : q8f m z) {a k : Nat} {v : Int32} (ha : a = 66 ∨ a = 67) : q8f m (bv_up z a k v) :=
  ⟨fun x h1 h2 h3 => by rw [bv_up_row (by omega)]; exact h.1 x h1 h2 h3, fun j hj => by rw [bv_up_nn (by omega)]; exact h.2 j hj⟩
theorem look8 {n i : Nat} {src : Nat → Int32} {m z : bv_Mem} (he : e8 n src m) (h : q8f m z) (hi : z 61 10 = nI i) (hin : i ≤ n) : f_X8_look z = some (px_sg src n i) := by
  obtain ⟨h1, h2, h3⟩ := he
  have e62 : z 62 = m 62 := h.1 62 (by decide) (by decide) (by decide)
  unfold f_X8_look px_sg
  rw [e62, h2, hi]
  by_cases hq : i < n
  · have e9 : bv_in (99 + nI i) 371 = true := in_lit (a := 99) (by omega) (by omega)
    have e10 : (99 + nI i).toNatClampNeg = 99 + i := c_lit 99 i (by omega)
    rw [if_neg (nI_ge hq (by omega)), if_pos e9, e10, h3 i hq, if_pos hq]
  · rw [if_pos (nI_le (by omega) (by omega)), if_neg hq]
theorem gd_l {c : px_L} {p : Int32 × Int32} {k : Nat} (h : k < c.length) : (c ++ [p]).getD k (0, 0) = c.getD k (0, 0) := by
  rw [List.getD_eq_getElem?_getD, List.getD_eq_getElem?_getD, List.getElem?_append_left h]
theorem gd_r {c : px_L} {p : Int32 × Int32} : (c ++ [p]).getD c.length (0, 0) = p := by
  rw [List.getD_eq_getElem?_getD, List.getElem?_append_right (Nat.le_refl _), Nat.sub_self]
  rfl
theorem stp8 {u i op : Nat} {m z : bv_Mem} {code : px_L} {w x : Int32} (h : q8 u m z i op code) (hl : code.length < 50) : ∃ z', f_X8_step w x z = some z' ∧ q8 u m z' i op (code ++ [(w, x)]) := by
  obtain ⟨h0, h1, h2, h3, h4, h5, h6⟩ := h
  have e1 : ¬ (50 : Int32) ≤ nI code.length := nI_ge (b := 50) (by omega) (by omega)
  have e2 : bv_in (nI code.length) 50 = true := nb_in hl (by omega)
  refine ⟨bv_up (bv_up (bv_up z 66 code.length w) 67 code.length x) 61 9 (nI (code.length + 1)), ?_, q8f_up (q8f_cd (q8f_cd h0 (by omega)) (by omega)) (by omega), ?_, ?_, ?_, ?_, ?_, ?_⟩
  · unfold f_X8_step
    have e5 : bv_up z 66 code.length w 61 9 = nI code.length := by rw [bv_up_nn (by omega), h2]
    have e6 : bv_up (bv_up z 66 code.length w) 67 code.length x 61 9 = nI code.length := by rw [bv_up_nn (by omega), e5]
    rw [h2, if_neg e1, if_pos e2, nI_clamp (by omega), e5, if_pos e2, nI_clamp (by omega), e6, nI_1]
  · rw [bv_up_nn (by omega), bv_up_nn (by omega), bv_up_nn (by omega)]; exact h1
  · rw [bv_up_eq, List.length_append, List.length_singleton]
  · rw [bv_up_nn (by omega), bv_up_nn (by omega), bv_up_nn (by omega)]; exact h3
  · rw [bv_up_nn (by omega), bv_up_nn (by omega), bv_up_nn (by omega)]; exact h4
  · rw [bv_up_nn (by omega), bv_up_nn (by omega), bv_up_nn (by omega)]; exact h5
  · intro k hk
    rw [List.length_append, List.length_singleton] at hk
    by_cases hq : k = code.length
    · subst hq
      rw [gd_r, bv_up_nn (by omega), bv_up_nn (by omega), bv_up_eq, bv_up_nn (by omega), bv_up_eq]
      exact ⟨rfl, rfl⟩
    · rw [gd_l (by omega), bv_up_nn (by omega), bv_up_nn (by omega), bv_up_nn (by omega), bv_up_nn (by omega), bv_up_nn (by omega), bv_up_nn (by omega)]
      exact h6 k (by omega)
theorem stb8 {i : Nat} {m z : bv_Mem} {w x : Int32} (h : b8 m z i) : ∃ z', f_X8_step w x z = some z' ∧ b8 m z' i := by
  obtain ⟨h0, h1, h2, L, hL, eL⟩ := h
  unfold f_X8_step
  rw [eL]
  by_cases hq : L = 50
  · subst hq
    rw [if_pos (by decide)]
    exact ⟨z, rfl, h0, h1, h2, 50, by omega, eL⟩
  · have e1 : ¬ (50 : Int32) ≤ nI L := nI_ge (b := 50) (by omega) (by omega)
    have e2 : bv_in (nI L) 50 = true := nb_in (by omega) (by omega)
    have e5 : bv_up z 66 L w 61 9 = nI L := by rw [bv_up_nn (by omega), eL]
    have e6 : bv_up (bv_up z 66 L w) 67 L x 61 9 = nI L := by rw [bv_up_nn (by omega), e5]
    rw [if_neg e1, if_pos e2, nI_clamp (by omega), e5, if_pos e2, nI_clamp (by omega), e6, nI_1]
    refine ⟨_, rfl, q8f_up (q8f_cd (q8f_cd h0 (by omega)) (by omega)) (by omega), ?_, ?_, L + 1, by omega, ?_⟩
    · rw [bv_up_nn (by omega), bv_up_nn (by omega), bv_up_nn (by omega)]; exact h1
    · rw [bv_up_nn (by omega), bv_up_nn (by omega), bv_up_nn (by omega)]; exact h2
    · rw [bv_up_eq]
theorem q8_mv {u i op : Nat} {m z : bv_Mem} {code : px_L} (h : q8 u m z i op code) (j : Nat) : q8 u m (bv_up z 61 10 (nI j)) j op code := by
  obtain ⟨h0, h1, h2, h3, h4, h5, h6⟩ := h
  refine ⟨q8f_up h0 (by omega), bv_up_eq, ?_, ?_, ?_, ?_, ?_⟩
  · rw [bv_up_nn (by omega)]; exact h2
  · rw [bv_up_nn (by omega)]; exact h3
  · rw [bv_up_nn (by omega)]; exact h4
  · rw [bv_up_nn (by omega)]; exact h5
  · intro k hk
    rw [bv_up_row (by omega), bv_up_row (by omega)]
    exact h6 k hk
theorem q8_op {u i op : Nat} {m z : bv_Mem} {code : px_L} (h : q8 u m z i op code) (j : Nat) : q8 u m (bv_up z 61 11 (nI j)) i j code := by
  obtain ⟨h0, h1, h2, h3, h4, h5, h6⟩ := h
  refine ⟨q8f_up h0 (by omega), ?_, ?_, bv_up_eq, ?_, ?_, ?_⟩
  · rw [bv_up_nn (by omega)]; exact h1
  · rw [bv_up_nn (by omega)]; exact h2
  · rw [bv_up_nn (by omega)]; exact h4
  · rw [bv_up_nn (by omega)]; exact h5
  · intro k hk
    rw [bv_up_row (by omega), bv_up_row (by omega)]
    exact h6 k hk
theorem q8_ok {u i op : Nat} {m z : bv_Mem} {code : px_L} (h : q8 u m z i op code) : q8 u m (bv_up z 61 12 0) i op code := by
  obtain ⟨h0, h1, h2, h3, h4, h5, h6⟩ := h
  refine ⟨q8f_up h0 (by omega), ?_, ?_, ?_, bv_up_eq, ?_, ?_⟩
  · rw [bv_up_nn (by omega)]; exact h1
  · rw [bv_up_nn (by omega)]; exact h2
  · rw [bv_up_nn (by omega)]; exact h3
  · rw [bv_up_nn (by omega)]; exact h5
  · intro k hk
    rw [bv_up_row (by omega), bv_up_row (by omega)]
    exact h6 k hk
theorem q8_bad {u i op : Nat} {m z : bv_Mem} {code : px_L} (hl : code.length ≤ 50) (h : q8 u m z i op code) : b8 m (bv_up z 61 12 1) i := by
  obtain ⟨h0, h1, h2, h3, h4, h5, h6⟩ := h
  exact ⟨q8f_up h0 (by omega), by rw [bv_up_nn (by omega)]; exact h1, bv_up_eq, _, hl, by rw [bv_up_nn (by omega)]; exact h2⟩
theorem b8_op {i : Nat} {m z : bv_Mem} {v : Int32} (h : b8 m z i) : b8 m (bv_up z 61 11 v) i := by
  obtain ⟨h0, h1, h2, L, hL, eL⟩ := h
  exact ⟨q8f_up h0 (by omega), by rw [bv_up_nn (by omega)]; exact h1, by rw [bv_up_nn (by omega)]; exact h2, L, hL, by rw [bv_up_nn (by omega)]; exact eL⟩
theorem b8_12 {i : Nat} {m z : bv_Mem} (h : b8 m z i) : ¬ z 61 12 = 0 := by
  rw [h.2.2.1]
  decide
section L
variable {n u : Nat} {m : bv_Mem} {src : Nat → Int32}
theorem loop8 {op : Nat} {lvl : Int32} {sub : Nat → px_R} {R : bv_Mem → Option bv_Mem} {L : Nat → bv_Mem → Option bv_Mem} (he : e8 n src m) (hl : lvl ≠ -1) (hs : s8 n u m op sub R) (ha : px_adv n sub)
    (hst : ∀ (fu : Nat) (z : bv_Mem) (x : Int32), z 61 12 = 0 → f_X8_look z = some x → ¬ px_lev x = lvl → L (fu + 1) z = some z)
    (hbd : ∀ (fu : Nat) (z : bv_Mem), ¬ z 61 12 = 0 → L (fu + 1) z = some z)
    (hgo : ∀ (fu : Nat) (z : bv_Mem) (x : Int32), z 61 12 = 0 → f_X8_look z = some x → px_lev x = lvl → L (fu + 1) z = (R (bv_up z 61 10 (z 61 10 + 1))).bind fun z2 => (f_X8_step x 0 z2).bind fun z3 => L fu z3) :
    ∀ (f fu i : Nat) (z : bv_Mem) (bs c0 : px_L), f < fu → i ≤ n → n < i + f → (bs ++ c0).length ≤ i → q8 u m z i op (bs ++ c0) → ((px_loop src n lvl sub f i c0).2.1 = true → ∃ z', L fu z = some z' ∧ q8 u m z' (px_loop src n lvl sub f i c0).1 op (bs ++ (px_loop src n lvl sub f i c0).2.2)) ∧ ((px_loop src n lvl sub f i c0).2.1 = false → ∃ z', L fu z = some z' ∧ b8 m z' (px_loop src n lvl sub f i c0).1) := by
  have hn := he.1
  intro f
  induction f with
  | zero => intro fu i z bs c0 h1 h2 h3; omega
  | succ f ih =>
    intro fu i z bs c0 hf hi hp hlen hq
    obtain ⟨fu, rfl⟩ : ∃ k, fu = k + 1 := ⟨fu - 1, by omega⟩
    have lk := look8 he hq.1 hq.2.1 hi
    rw [px_loop]
    by_cases hlv : px_lev (px_sg src n i) = lvl
    · rw [if_pos hlv, hgo fu z _ hq.2.2.2.2.1 lk hlv, hq.2.1, show nI i + 1 = nI (i + 1) from nI_1 i]
      have hlt : i < n := sg_lt rfl (lev_m1 hlv hl)
      obtain ⟨s1, s2⟩ := hs (i + 1) _ (bs ++ c0) (by omega) (by omega) (q8_mv hq (i + 1))
      obtain ⟨a1, a2, a3⟩ := ha (i + 1) (by omega)
      by_cases ho : (sub (i + 1)).2.1 = true
      · rw [if_pos ho]
        obtain ⟨a4, a5⟩ := a3 ho
        obtain ⟨z2, k1, k2⟩ := s1 ho
        have hl2 : (bs ++ c0 ++ (sub (i + 1)).2.2).length = (bs ++ c0).length + (sub (i + 1)).2.2.length := List.length_append
        obtain ⟨z3, t1, t2⟩ := stp8 (w := px_sg src n i) (x := 0) k2 (by omega)
        rw [bd1 k1, bd1 t1]
        have ea : bs ++ c0 ++ (sub (i + 1)).2.2 ++ [(px_sg src n i, (0 : Int32))] = bs ++ (c0 ++ (sub (i + 1)).2.2 ++ [(px_sg src n i, (0 : Int32))]) := by
          rw [List.append_assoc, List.append_assoc, List.append_assoc]
        have hl3 : (bs ++ c0 ++ (sub (i + 1)).2.2 ++ [(px_sg src n i, (0 : Int32))]).length = (bs ++ c0 ++ (sub (i + 1)).2.2).length + 1 := by
          rw [List.length_append, List.length_singleton]
        rw [ea] at t2 hl3
        exact ih fu (sub (i + 1)).1 z3 bs _ (by omega) a1 (by omega) (by omega) t2
      · rw [if_neg ho]
        refine ⟨fun q => (by cases q), fun _ => ?_⟩
        obtain ⟨z2, k1, k2⟩ := s2 (by simpa using ho)
        obtain ⟨z3, t1, t2⟩ := stb8 (w := px_sg src n i) (x := 0) k2
        obtain ⟨fu, rfl⟩ : ∃ k, fu = k + 1 := ⟨fu - 1, by omega⟩
        rw [bd1 k1, bd1 t1, hbd fu z3 (b8_12 t2)]
        exact ⟨z3, rfl, t2⟩
    · rw [if_neg hlv, hst fu z _ hq.2.2.2.2.1 lk hlv]
      exact ⟨fun _ => ⟨z, rfl, hq⟩, fun q => (by cases q)⟩
theorem join8 {op : Nat} {lvl : Int32} {sub : Nat → px_R} {R F : bv_Mem → Option bv_Mem} {L : Nat → bv_Mem → Option bv_Mem} (he : e8 n src m) (hl : lvl ≠ -1) (hs : s8 n u m op sub R) (ha : px_adv n sub)
    (hst : ∀ (fu : Nat) (z : bv_Mem) (x : Int32), z 61 12 = 0 → f_X8_look z = some x → ¬ px_lev x = lvl → L (fu + 1) z = some z)
    (hbd : ∀ (fu : Nat) (z : bv_Mem), ¬ z 61 12 = 0 → L (fu + 1) z = some z)
    (hgo : ∀ (fu : Nat) (z : bv_Mem) (x : Int32), z 61 12 = 0 → f_X8_look z = some x → px_lev x = lvl → L (fu + 1) z = (R (bv_up z 61 10 (z 61 10 + 1))).bind fun z2 => (f_X8_step x 0 z2).bind fun z3 => L fu z3)
    (hF : ∀ z, F z = (R z).bind fun z1 => L 400 z1) : s8 n u m op (px_join src n lvl 50 sub) F := by
  have hn := he.1
  intro i z code hi hlen hq
  obtain ⟨a1, a2, a3⟩ := ha i hi
  obtain ⟨s1, s2⟩ := hs i z code hi hlen hq
  rw [hF]
  unfold px_join
  by_cases ho : (sub i).2.1 = true
  · rw [if_pos ho]
    obtain ⟨a4, a5⟩ := a3 ho
    obtain ⟨z2, k1, k2⟩ := s1 ho
    rw [bd1 k1]
    have hl2 : (code ++ (sub i).2.2).length = code.length + (sub i).2.2.length := List.length_append
    exact loop8 he hl hs ha hst hbd hgo 50 400 (sub i).1 z2 code (sub i).2.2 (by omega) a1 (by omega) (by omega) k2
  · rw [if_neg ho]
    refine ⟨fun q => (by cases q), fun _ => ?_⟩
    obtain ⟨z2, k1, k2⟩ := s2 (by simpa using ho)
    rw [bd1 k1]
    exact ⟨z2, hbd 399 z2 (b8_12 k2), k2⟩
variable {rA rL rC rS rT rO : bv_Mem → Option bv_Mem} {rP : Int32 → bv_Mem → Option bv_Mem}
theorem lev_0 {x : Int32} : px_lev x = 0 ↔ x = 124 := by
  constructor
  · intro h
    rcases lev_cases h (by decide) with ⟨rfl, q⟩ | ⟨rfl, q⟩ | ⟨rfl, q⟩ | ⟨rfl, q⟩ | ⟨rfl, q⟩ | ⟨rfl, q⟩ | ⟨rfl, q⟩ | ⟨rfl, q⟩ | ⟨rfl, q⟩ | ⟨rfl, q⟩ <;> first | rfl | exact absurd q (by decide)
  · rintro rfl
    decide
theorem lev_1 {x : Int32} : px_lev x = 1 ↔ x = 38 := by
  constructor
  · intro h
    rcases lev_cases h (by decide) with ⟨rfl, q⟩ | ⟨rfl, q⟩ | ⟨rfl, q⟩ | ⟨rfl, q⟩ | ⟨rfl, q⟩ | ⟨rfl, q⟩ | ⟨rfl, q⟩ | ⟨rfl, q⟩ | ⟨rfl, q⟩ | ⟨rfl, q⟩ <;> first | rfl | exact absurd q (by decide)
  · rintro rfl
    decide
theorem lev_2 {x : Int32} : px_lev x = 2 ↔ x = 60 ∨ x = 61 ∨ x = 62 := by
  constructor
  · intro h
    rcases lev_cases h (by decide) with ⟨rfl, q⟩ | ⟨rfl, q⟩ | ⟨rfl, q⟩ | ⟨rfl, q⟩ | ⟨rfl, q⟩ | ⟨rfl, q⟩ | ⟨rfl, q⟩ | ⟨rfl, q⟩ | ⟨rfl, q⟩ | ⟨rfl, q⟩ <;> first | decide | exact absurd q (by decide)
  · rintro (rfl | rfl | rfl) <;> decide
theorem lev_3 {x : Int32} : px_lev x = 3 ↔ x = 43 ∨ x = 45 := by
  constructor
  · intro h
    rcases lev_cases h (by decide) with ⟨rfl, q⟩ | ⟨rfl, q⟩ | ⟨rfl, q⟩ | ⟨rfl, q⟩ | ⟨rfl, q⟩ | ⟨rfl, q⟩ | ⟨rfl, q⟩ | ⟨rfl, q⟩ | ⟨rfl, q⟩ | ⟨rfl, q⟩ <;> first | decide | exact absurd q (by decide)
  · rintro (rfl | rfl) <;> decide
theorem lev_4 {x : Int32} : px_lev x = 4 ↔ x = 42 ∨ x = 47 ∨ x = 37 := by
  constructor
  · intro h
    rcases lev_cases h (by decide) with ⟨rfl, q⟩ | ⟨rfl, q⟩ | ⟨rfl, q⟩ | ⟨rfl, q⟩ | ⟨rfl, q⟩ | ⟨rfl, q⟩ | ⟨rfl, q⟩ | ⟨rfl, q⟩ | ⟨rfl, q⟩ | ⟨rfl, q⟩ <;> first | decide | exact absurd q (by decide)
  · rintro (rfl | rfl | rfl) <;> decide
theorem any8 {op : Nat} {sub : Nat → px_R} (he : e8 n src m) (hs : s8 n u m op sub rL) (ha : px_adv n sub) : s8 n u m op (px_join src n 0 50 sub) (F_X8_any rA rL rC rS rT rO rP) := by
  refine join8 (L := b_X8_any_4 rA rL rC rS rT rO rP) he (by decide) hs ha ?_ ?_ ?_ (fun z => rfl)
  · intro fu z x h0 hx hv
    rw [b_X8_any_4, if_pos h0, bd1 hx, if_neg (fun q => hv (lev_0.mpr q))]
  · intro fu z h0
    rw [b_X8_any_4, if_neg h0]
  · intro fu z x h0 hx hv
    have := lev_0.mp hv
    subst this
    rw [b_X8_any_4, if_pos h0, bd1 hx, if_pos rfl]
theorem alls8 {op : Nat} {sub : Nat → px_R} (he : e8 n src m) (hs : s8 n u m op sub rC) (ha : px_adv n sub) : s8 n u m op (px_join src n 1 50 sub) (F_X8_all rA rL rC rS rT rO rP) := by
  refine join8 (L := b_X8_all_4 rA rL rC rS rT rO rP) he (by decide) hs ha ?_ ?_ ?_ (fun z => rfl)
  · intro fu z x h0 hx hv
    rw [b_X8_all_4, if_pos h0, bd1 hx, if_neg (fun q => hv (lev_1.mpr q))]
  · intro fu z h0
    rw [b_X8_all_4, if_neg h0]
  · intro fu z x h0 hx hv
    have := lev_1.mp hv
    subst this
    rw [b_X8_all_4, if_pos h0, bd1 hx, if_pos rfl]
theorem sum8 {op : Nat} {sub : Nat → px_R} (he : e8 n src m) (hs : s8 n u m op sub rT) (ha : px_adv n sub) : s8 n u m op (px_join src n 3 50 sub) (F_X8_sum rA rL rC rS rT rO rP) := by
  refine join8 (L := b_X8_sum_4 rA rL rC rS rT rO rP) he (by decide) hs ha ?_ ?_ ?_ (fun z => rfl)
  · intro fu z x h0 hx hv
    rw [b_X8_sum_4, if_pos h0, bd1 hx, if_neg (fun q => hv (lev_3.mpr (Or.inl q))), bd1 hx, if_neg (fun q => hv (lev_3.mpr (Or.inr q)))]
  · intro fu z h0
    rw [b_X8_sum_4, if_neg h0]
  · intro fu z x h0 hx hv
    have e29 : ∀ k, b_X8_sum_29 rA rL rC rS rT rO rP k z = (rT (bv_up z 61 10 (z 61 10 + 1))).bind fun z2 => (f_X8_step x 0 z2).bind fun z3 => k z3 := by
      intro k
      rw [b_X8_sum_29, bd1 hx]
    rw [b_X8_sum_4, if_pos h0, bd1 hx, bd1 hx, e29]
    by_cases h43 : x = 43
    · rw [if_pos h43]
    · rw [if_neg h43, if_pos ((lev_3.mp hv).resolve_left h43)]
theorem times8 {op : Nat} {sub : Nat → px_R} (he : e8 n src m) (hs : s8 n u m op sub rO) (ha : px_adv n sub) : s8 n u m op (px_join src n 4 50 sub) (F_X8_times rA rL rC rS rT rO rP) := by
  refine join8 (L := b_X8_times_4 rA rL rC rS rT rO rP) he (by decide) hs ha ?_ ?_ ?_ (fun z => rfl)
  · intro fu z x h0 hx hv
    rw [b_X8_times_4, if_pos h0, bd1 hx, if_neg (fun q => hv (lev_4.mpr (Or.inl q))), bd1 hx, if_neg (fun q => hv (lev_4.mpr (Or.inr (Or.inl q)))), bd1 hx, if_neg (fun q => hv (lev_4.mpr (Or.inr (Or.inr q))))]
  · intro fu z h0
    rw [b_X8_times_4, if_neg h0]
  · intro fu z x h0 hx hv
    have e29 : ∀ k, b_X8_times_38 rA rL rC rS rT rO rP k z = (rO (bv_up z 61 10 (z 61 10 + 1))).bind fun z2 => (f_X8_step x 0 z2).bind fun z3 => k z3 := by
      intro k
      rw [b_X8_times_38, bd1 hx]
    rw [b_X8_times_4, if_pos h0, bd1 hx, bd1 hx, bd1 hx, e29]
    by_cases h42 : x = 42
    · rw [if_pos h42]
    · rw [if_neg h42]
      by_cases h47 : x = 47
      · rw [if_pos h47]
      · rw [if_neg h47, if_pos (((lev_4.mp hv).resolve_left h42).resolve_left h47)]
theorem cmp8 {op : Nat} {sub : Nat → px_R} (he : e8 n src m) (hs : s8 n u m op sub rS) (ha : px_adv n sub) : s8 n u m op (px_join src n 2 1 sub) (F_X8_compares rA rL rC rS rT rO rP) := by
  have hn := he.1
  intro i z code hi hlen hq
  obtain ⟨a1, a2, a3⟩ := ha i hi
  obtain ⟨s1, s2⟩ := hs i z code hi hlen hq
  unfold F_X8_compares px_join
  by_cases ho : (sub i).2.1 = true
  · rw [if_pos ho]
    obtain ⟨a4, a5⟩ := a3 ho
    obtain ⟨z2, k1, k2⟩ := s1 ho
    have lk := look8 he k2.1 k2.2.1 a1
    have hl2 : (code ++ (sub i).2.2).length = code.length + (sub i).2.2.length := List.length_append
    rw [bd1 k1, bd1 lk, if_pos k2.2.2.2.2.1, px_loop]
    by_cases hlv : px_lev (px_sg src n (sub i).1) = 2
    · have hlt : (sub i).1 < n := sg_lt rfl (lev_m1 hlv (by decide))
      rw [if_pos hlv]
      have e34 : (if px_sg src n (sub i).1 = 60 then b_X8_compares_34 rA rL rC rS rT rO rP (px_sg src n (sub i).1) z2 else if px_sg src n (sub i).1 = 61 then b_X8_compares_34 rA rL rC rS rT rO rP (px_sg src n (sub i).1) z2 else if px_sg src n (sub i).1 = 62 then b_X8_compares_34 rA rL rC rS rT rO rP (px_sg src n (sub i).1) z2 else some z2) = b_X8_compares_34 rA rL rC rS rT rO rP (px_sg src n (sub i).1) z2 := by
        rcases lev_2.mp hlv with q | q | q
        · rw [if_pos q]
        · rw [if_neg (by rw [q]; decide), if_pos q]
        · rw [if_neg (by rw [q]; decide), if_neg (by rw [q]; decide), if_pos q]
      rw [e34, b_X8_compares_34, k2.2.1, show nI (sub i).1 + 1 = nI ((sub i).1 + 1) from nI_1 _]
      obtain ⟨t1, t2⟩ := hs ((sub i).1 + 1) _ (code ++ (sub i).2.2) (by omega) (by omega) (q8_mv k2 ((sub i).1 + 1))
      obtain ⟨b1, b2, b3⟩ := ha ((sub i).1 + 1) (by omega)
      by_cases hp : (sub ((sub i).1 + 1)).2.1 = true
      · rw [if_pos hp, px_loop]
        obtain ⟨b4, b5⟩ := b3 hp
        obtain ⟨z3, p1, p2⟩ := t1 hp
        have hl3 : (code ++ (sub i).2.2 ++ (sub ((sub i).1 + 1)).2.2).length = (code ++ (sub i).2.2).length + (sub ((sub i).1 + 1)).2.2.length := List.length_append
        obtain ⟨z4, r1, r2⟩ := stp8 (w := px_sg src n (sub i).1) (x := 0) p2 (by omega)
        rw [bd1 p1, bd1 r1]
        refine ⟨fun _ => ⟨z4, rfl, ?_⟩, fun q => (by cases q)⟩
        rw [List.append_assoc, List.append_assoc] at r2
        dsimp only
        rw [List.append_assoc]
        exact r2
      · rw [if_neg hp]
        refine ⟨fun q => (by cases q), fun _ => ?_⟩
        obtain ⟨z3, p1, p2⟩ := t2 (by simpa using hp)
        obtain ⟨z4, r1, r2⟩ := stb8 (w := px_sg src n (sub i).1) (x := 0) p2
        rw [bd1 p1, bd1 r1]
        exact ⟨z4, rfl, r2⟩
    · rw [if_neg hlv, if_neg (fun q => hlv (lev_2.mpr (Or.inl q))), if_neg (fun q => hlv (lev_2.mpr (Or.inr (Or.inl q)))), if_neg (fun q => hlv (lev_2.mpr (Or.inr (Or.inr q))))]
      exact ⟨fun _ => ⟨z2, rfl, k2⟩, fun q => (by cases q)⟩
  · rw [if_neg ho]
    refine ⟨fun q => (by cases q), fun _ => ?_⟩
    obtain ⟨z2, k1, k2⟩ := s2 (by simpa using ho)
    have lk := look8 he k2.1 k2.2.1 a1
    rw [bd1 k1, bd1 lk, if_neg (b8_12 k2)]
    exact ⟨z2, rfl, k2⟩
-- ===== one =====
theorem numb8 {op : Nat} {code : px_L} (he : e8 n src m) : ∀ (k dg fu i : Nat) (z : bv_Mem) (v : Int32), k + dg = 4 → k < fu → i ≤ n → q8 u m z i op code → ∃ z', b_X8_number_4 fu v (nI dg) z = b_X8_number_52 (px_num src n k i v).2 (nI (dg + ((px_num src n k i v).1 - i))) z' ∧ q8 u m z' (px_num src n k i v).1 op code := by
  intro k
  induction k with
  | zero =>
    intro dg fu i z v hk hf hi hq
    obtain ⟨fu, rfl⟩ : ∃ k, fu = k + 1 := ⟨fu - 1, by omega⟩
    have e4 : dg = 4 := by omega
    subst e4
    refine ⟨z, ?_, hq⟩
    rw [b_X8_number_4, if_pos (by decide), px_num]
    dsimp only
    rw [Nat.sub_self]
  | succ k ih =>
    intro dg fu i z v hk hf hi hq
    obtain ⟨fu, rfl⟩ : ∃ k, fu = k + 1 := ⟨fu - 1, by omega⟩
    have e4 : ¬ (4 : Int32) ≤ nI dg := nI_ge (b := 4) (by omega) (by omega)
    have lk := look8 he hq.1 hq.2.1 hi
    rw [b_X8_number_4, if_neg e4, px_num, bd1 lk, bd1 (win8 _ _ _ _)]
    by_cases hd : 48 ≤ px_sg src n i ∧ px_sg src n i ≤ 57
    · have hlt : i < n := sg_lt rfl (fun q => by rw [q] at hd; exact absurd hd.1 (by decide))
      rw [if_pos hd, if_neg (by decide), if_pos hd, bd1 lk, hq.2.1, show nI dg + 1 = nI (dg + 1) from nI_1 dg, show nI i + 1 = nI (i + 1) from nI_1 i, Int32.mul_comm 10 v]
      obtain ⟨z2, k1, k2⟩ := ih (dg + 1) fu (i + 1) _ (v * 10 + px_sg src n i - 48) (by omega) (by omega) (by omega) (q8_mv hq (i + 1))
      obtain ⟨q1, q2⟩ := num_adv (src := src) (n := n) k (i + 1) (v * 10 + px_sg src n i - 48) (by omega)
      refine ⟨z2, ?_, k2⟩
      rw [k1]
      congr 2
      omega
    · rw [if_neg hd, if_pos rfl, if_neg hd]
      refine ⟨z, ?_, hq⟩
      dsimp only
      rw [Nat.sub_self]
      rfl
theorem nm8 {x : Int32} {z : bv_Mem} (hu : u ≤ 1) (h : z 61 13 = nI u) : f_X8_nameOf x z = some (match px_nm u x with | some k => k | none => -1) := by
  have c0 : ¬ nI 0 = 1 := by decide
  have c1 : ¬ nI 1 = 0 := by decide
  have d0 : nI 0 = 0 := rfl
  have d1 : nI 1 = 1 := rfl
  unfold f_X8_nameOf
  rw [h]
  match u, hu with
  | 0, _ =>
    rw [nm_0]
    by_cases h1 : x = 104
    · subst h1; rfl
    · by_cases h2 : x = 115
      · subst h2; rfl
      · by_cases h3 : x = 100
        · subst h3; rfl
        · rw [if_neg h1, if_neg h2, if_neg h3]
          simp only [if_neg h1, if_neg h2, if_neg h3, if_neg c0, ite_self]
  | 1, _ =>
    rw [nm_1]
    by_cases h1 : x = 107
    · subst h1; rfl
    · by_cases h2 : x = 108
      · subst h2; rfl
      · by_cases h3 : x = 97
        · subst h3; rfl
        · rw [if_neg h1, if_neg h2, if_neg h3]
          simp only [if_neg h1, if_neg h2, if_neg h3, if_neg c1, ite_self]
theorem nm_lit {x k : Int32} (h : px_nm u x = some k) : (x = 104 ∨ x = 115 ∨ x = 100 ∨ x = 107 ∨ x = 108 ∨ x = 97) ∧ (k = 0 ∨ k = 1 ∨ k = 2) := by
  unfold px_nm at h
  by_cases h0 : u = 0
  · rw [if_pos h0] at h
    by_cases h1 : x = 104
    · rw [if_pos h1] at h; exact ⟨Or.inl h1, Or.inl (Option.some.inj h).symm⟩
    · rw [if_neg h1] at h
      by_cases h2 : x = 115
      · rw [if_pos h2] at h; exact ⟨Or.inr (Or.inl h2), Or.inr (Or.inl (Option.some.inj h).symm)⟩
      · rw [if_neg h2] at h
        by_cases h3 : x = 100
        · rw [if_pos h3] at h; exact ⟨Or.inr (Or.inr (Or.inl h3)), Or.inr (Or.inr (Option.some.inj h).symm)⟩
        · rw [if_neg h3] at h; cases h
  · rw [if_neg h0] at h
    by_cases h1 : x = 107
    · rw [if_pos h1] at h; exact ⟨Or.inr (Or.inr (Or.inr (Or.inl h1))), Or.inl (Option.some.inj h).symm⟩
    · rw [if_neg h1] at h
      by_cases h2 : x = 108
      · rw [if_pos h2] at h; exact ⟨Or.inr (Or.inr (Or.inr (Or.inr (Or.inl h2)))), Or.inr (Or.inl (Option.some.inj h).symm)⟩
      · rw [if_neg h2] at h
        by_cases h3 : x = 97
        · rw [if_pos h3] at h; exact ⟨Or.inr (Or.inr (Or.inr (Or.inr (Or.inr h3)))), Or.inr (Or.inr (Option.some.inj h).symm)⟩
        · rw [if_neg h3] at h; cases h
def px_tl (src : Nat → Int32) (n u : Nat) : Nat → Nat → px_R
  | 0, i => (i, false, [])
  | r + 1, i => if px_sg src n i = 33 then (if (px_one src n u r (i + 1)).2.1 = true then ((px_one src n u r (i + 1)).1, true, (px_one src n u r (i + 1)).2.2 ++ [(3, 0)]) else ((px_one src n u r (i + 1)).1, false, [])) else if px_sg src n i = 40 then (if (px_lvl src n (px_one src n u r) 0 (i + 1)).2.1 = true ∧ px_sg src n (px_lvl src n (px_one src n u r) 0 (i + 1)).1 = 41 then ((px_lvl src n (px_one src n u r) 0 (i + 1)).1 + 1, true, (px_lvl src n (px_one src n u r) 0 (i + 1)).2.2) else ((px_lvl src n (px_one src n u r) 0 (i + 1)).1, false, [])) else (i, false, [])
theorem one_tl {r i : Nat} (h : ¬ i < (px_num src n 4 i 0).1) (hk : px_nm u (px_sg src n i) = none) : px_one src n u r i = px_tl src n u r i := by
  cases r with
  | zero => rw [one_0 h hk, px_tl]
  | succ r => rw [one_s h hk, px_tl]
theorem num_dig {i : Nat} (h : i < (px_num src n 4 i 0).1) : 48 ≤ px_sg src n i ∧ px_sg src n i ≤ 57 := by
  rw [px_num] at h
  by_cases hd : 48 ≤ px_sg src n i ∧ px_sg src n i ≤ 57
  · exact hd
  · rw [if_neg hd] at h
    exact absurd h (by dsimp only; omega)
theorem opens8 {op r i : Nat} {z : bv_Mem} {code : px_L} (he : e8 n src m) (hd : op + r = 5) (h1 : ∀ r', r = r' + 1 → s8 n u m (op + 1) (px_one src n u r') rO) (h2 : ∀ r', r = r' + 1 → s8 n u m (op + 1) (px_lvl src n (px_one src n u r') 0) rA) (hi : i ≤ n) (hlen : code.length ≤ i) (hq : q8 u m z i op code) (hx : px_sg src n i = 33 ∨ px_sg src n i = 40) : ((px_tl src n u r i).2.1 = true → ∃ z', F_X8_opens rA rL rC rS rT rO rP (px_sg src n i) z = some z' ∧ q8 u m z' (px_tl src n u r i).1 op (code ++ (px_tl src n u r i).2.2)) ∧ ((px_tl src n u r i).2.1 = false → ∃ z', F_X8_opens rA rL rC rS rT rO rP (px_sg src n i) z = some z' ∧ b8 m z' (px_tl src n u r i).1) := by
  have hn := he.1
  unfold F_X8_opens
  rw [hq.2.2.2.1]
  match r, hd with
  | 0, hd =>
    have e5 : nI op = 5 := by
      have : op = 5 := by omega
      rw [this]
      rfl
    rw [if_pos e5, px_tl]
    exact ⟨fun q => (by cases q), fun _ => ⟨_, rfl, q8_bad (by omega) hq⟩⟩
  | r + 1, hd =>
    have e5 : ¬ nI op = 5 := fun q => by
      have := (nI_eq (a := op) (b := 5) (by omega) (by omega)).mp q
      omega
    have hlt : i < n := sg_lt rfl (fun q => by rcases hx with w | w <;> rw [w] at q <;> exact absurd q (by decide))
    have eu : bv_up (bv_up z 61 11 (nI op + 1)) 61 10 (bv_up z 61 11 (nI op + 1) 61 10 + 1) = bv_up (bv_up z 61 11 (nI (op + 1))) 61 10 (nI (i + 1)) := by
      rw [bv_up_nn (by omega), hq.2.1, nI_1, nI_1]
    have hq1 := q8_mv (q8_op hq (op + 1)) (i + 1)
    rw [if_neg e5, eu, px_tl]
    by_cases h33 : px_sg src n i = 33
    · rw [if_pos h33, if_pos h33]
      obtain ⟨s1, s2⟩ := h1 r rfl (i + 1) _ code (by omega) (by omega) hq1
      obtain ⟨a1, a2, a3⟩ := one_adv (src := src) (n := n) (u := u) r (i + 1) (by omega)
      by_cases ho : (px_one src n u r (i + 1)).2.1 = true
      · rw [if_pos ho]
        refine ⟨fun _ => ?_, fun q => (by cases q)⟩
        obtain ⟨a4, a5⟩ := a3 ho
        obtain ⟨z3, p1, p2⟩ := s1 ho
        have hl2 : (code ++ (px_one src n u r (i + 1)).2.2).length = code.length + (px_one src n u r (i + 1)).2.2.length := List.length_append
        obtain ⟨z4, t1, t2⟩ := stp8 (w := 3) (x := 0) p2 (by omega)
        rw [bd1 p1, bd1 t1, t2.2.2.2.1, show nI (op + 1) - 1 = nI op from nI_pred op]
        refine ⟨_, rfl, ?_⟩
        have := q8_op t2 op
        rw [List.append_assoc] at this
        exact this
      · rw [if_neg ho]
        refine ⟨fun q => (by cases q), fun _ => ?_⟩
        obtain ⟨z3, p1, p2⟩ := s2 (by simpa using ho)
        obtain ⟨z4, t1, t2⟩ := stb8 (w := 3) (x := 0) p2
        rw [bd1 p1, bd1 t1]
        exact ⟨_, rfl, b8_op t2⟩
    · have h40 := hx.resolve_left h33
      rw [if_neg h33, if_neg h33, if_pos h40]
      obtain ⟨s1, s2⟩ := h2 r rfl (i + 1) _ code (by omega) (by omega) hq1
      obtain ⟨a1, a2, a3⟩ := lvl_adv (src := src) (one_adv (src := src) (n := n) (u := u) r) (i + 1) (by omega)
      have f0 : bv_fit .boolean 0 = true := by decide
      have f1 : bv_fit .boolean 1 = true := by decide
      have bad : ∀ z1 : bv_Mem, b8 m (bv_up z1 61 12 1) (px_lvl src n (px_one src n u r) 0 (i + 1)).1 → ∃ z', b_X8_opens_74 rA rL rC rS rT rO rP z1 = some z' ∧ b8 m z' (px_lvl src n (px_one src n u r) 0 (i + 1)).1 := by
        intro z1 hb
        rw [b_X8_opens_74, b_X8_opens_79, if_pos f1, if_neg (b8_12 hb), Int32.add_zero]
        have e10 : bv_up (bv_up z1 61 12 1) 61 10 (bv_up z1 61 12 1 61 10) = bv_up z1 61 12 1 := by
          funext a k
          unfold bv_up
          by_cases hh : a = 61 ∧ k = 10
          · rw [if_pos hh, hh.1, hh.2]
          · rw [if_neg hh]
        rw [e10]
        exact ⟨_, rfl, b8_op hb⟩
      by_cases ho : (px_lvl src n (px_one src n u r) 0 (i + 1)).2.1 = true
      · obtain ⟨z3, p1, p2⟩ := s1 ho
        obtain ⟨a4, a5⟩ := a3 ho
        have lk := look8 he p2.1 p2.2.1 a1
        have hl2 : (code ++ (px_lvl src n (px_one src n u r) 0 (i + 1)).2.2).length = code.length + (px_lvl src n (px_one src n u r) 0 (i + 1)).2.2.length := List.length_append
        rw [bd1 p1, if_pos p2.2.2.2.2.1, bd1 lk]
        by_cases h41 : px_sg src n (px_lvl src n (px_one src n u r) 0 (i + 1)).1 = 41
        · rw [if_pos h41, if_pos ⟨ho, h41⟩]
          refine ⟨fun _ => ?_, fun q => (by cases q)⟩
          have p3 := q8_ok p2
          have p4 := q8_mv p3 ((px_lvl src n (px_one src n u r) 0 (i + 1)).1 + 1)
          rw [b_X8_opens_79, if_pos f0, if_pos p3.2.2.2.2.1, p3.2.1, show nI (px_lvl src n (px_one src n u r) 0 (i + 1)).1 + 1 = nI ((px_lvl src n (px_one src n u r) 0 (i + 1)).1 + 1) from nI_1 _, p4.2.2.2.1, show nI (op + 1) - 1 = nI op from nI_pred op]
          exact ⟨_, rfl, q8_op p4 op⟩
        · rw [if_neg h41, if_neg (fun q => h41 q.2)]
          exact ⟨fun q => (by cases q), fun _ => bad z3 (q8_bad (by omega) p2)⟩
      · rw [if_neg (fun q => ho q.1)]
        refine ⟨fun q => (by cases q), fun _ => ?_⟩
        obtain ⟨z3, p1, p2⟩ := s2 (by simpa using ho)
        rw [bd1 p1, if_neg (b8_12 p2)]
        apply bad
        obtain ⟨w0, w1, w2, Lw, w3, w4⟩ := p2
        exact ⟨q8f_up w0 (by omega), by rw [bv_up_nn (by omega)]; exact w1, bv_up_eq, Lw, w3, by rw [bv_up_nn (by omega)]; exact w4⟩
theorem one8 {op r : Nat} (he : e8 n src m) (hu : u ≤ 1) (hO : ∀ (i : Nat) (z : bv_Mem) (code : px_L), i ≤ n → code.length ≤ i → q8 u m z i op code → (px_sg src n i = 33 ∨ px_sg src n i = 40) → ((px_tl src n u r i).2.1 = true → ∃ z', rP (px_sg src n i) z = some z' ∧ q8 u m z' (px_tl src n u r i).1 op (code ++ (px_tl src n u r i).2.2)) ∧ ((px_tl src n u r i).2.1 = false → ∃ z', rP (px_sg src n i) z = some z' ∧ b8 m z' (px_tl src n u r i).1)) : s8 n u m op (px_one src n u r) (F_X8_one rA rL rC rS rT rO rP) := by
  have hn := he.1
  intro i z code hi hlen hq
  have lk := look8 he hq.1 hq.2.1 hi
  unfold F_X8_one
  rw [bd1 lk, bd1 (nm8 hu hq.2.2.2.2.2.1)]
  obtain ⟨q1, q2⟩ := num_adv (src := src) (n := n) 4 i 0 hi
  obtain ⟨z1, k1, k2⟩ := numb8 (u := u) (op := op) (code := code) he 4 0 400 i z 0 (by omega) (by omega) hi hq
  have kn : f_X8_number z = b_X8_number_52 (px_num src n 4 i 0).2 (nI (0 + ((px_num src n 4 i 0).1 - i))) z1 := k1
  cases hm : px_nm u (px_sg src n i) with
  | some k =>
    obtain ⟨hlit, hk⟩ := nm_lit hm
    have hnd : ¬ i < (px_num src n 4 i 0).1 := fun q => by
      have hd := num_dig q
      rcases hlit with w | w | w | w | w | w <;> rw [w] at hd <;> exact absurd hd.2 (by decide)
    have hlt : i < n := sg_lt rfl (fun q => by rw [q, nm_m1] at hm; cases hm)
    rw [one_nm hnd hm]
    dsimp only
    have hneg : ¬ k < 0 := by rcases hk with rfl | rfl | rfl <;> decide
    obtain ⟨z2, t1, t2⟩ := stp8 (w := 2) (x := k) (q8_mv hq (i + 1)) (by omega)
    rw [if_neg hneg, hq.2.1, show nI i + 1 = nI (i + 1) from nI_1 i, bd1 t1]
    exact ⟨fun _ => ⟨z2, rfl, t2⟩, fun q => (by cases q)⟩
  | none =>
    dsimp only
    rw [if_pos (show (-1 : Int32) < 0 by decide)]
    by_cases hnd : i < (px_num src n 4 i 0).1
    · have hd := num_dig hnd
      have n33 : ¬ px_sg src n i = 33 := fun q => by rw [q] at hd; exact absurd hd.1 (by decide)
      have n40 : ¬ px_sg src n i = 40 := fun q => by rw [q] at hd; exact absurd hd.1 (by decide)
      have hne : ¬ nI (0 + ((px_num src n 4 i 0).1 - i)) = 0 := nI_ne0 (by omega) (by omega)
      obtain ⟨z2, t1, t2⟩ := stp8 (w := 1) (x := (px_num src n 4 i 0).2) (q8_ok k2) (by omega)
      rw [if_neg n33, if_neg n40, kn, b_X8_number_52, if_neg hne, bd1 t1, one_num hnd]
      exact ⟨fun _ => ⟨z2, rfl, t2⟩, fun q => (by cases q)⟩
    · rw [one_tl hnd hm]
      have fin : ∀ G : Option bv_Mem, G = rP (px_sg src n i) z → (G.bind fun z3 => some z3) = rP (px_sg src n i) z := by
        intro G hG
        rw [hG]
        cases rP (px_sg src n i) z <;> rfl
      by_cases h33 : px_sg src n i = 33
      · rw [if_pos h33, fin _ rfl]
        exact hO i z code hi hlen hq (Or.inl h33)
      · rw [if_neg h33]
        by_cases h40 : px_sg src n i = 40
        · rw [if_pos h40, fin _ rfl]
          exact hO i z code hi hlen hq (Or.inr h40)
        · have e0 : (px_num src n 4 i 0).1 = i := by omega
          rw [e0] at k2 kn
          obtain ⟨z2, t1, t2⟩ := stb8 (w := 1) (x := (px_num src n 4 i 0).2) (q8_bad (by omega) k2)
          rw [if_neg h40, kn, Nat.sub_self, b_X8_number_52, if_pos (show nI (0 + 0) = 0 from rfl), bd1 t1]
          have etl : px_tl src n u r i = (i, false, []) := by
            cases r with
            | zero => rw [px_tl]
            | succ r => rw [px_tl, if_neg h33, if_neg h40]
          rw [etl]
          exact ⟨fun q => (by cases q), fun _ => ⟨z2, rfl, t2⟩⟩
end L
theorem all8_r {n u : Nat} {src : Nat → Int32} {m : bv_Mem} (he : e8 n src m) (hu : u ≤ 1) : ∀ (r op k : Nat), op + r = 5 → 7 * r + 7 ≤ k → s8 n u m op (px_one src n u r) (G_X8 (k - 5)).2.2.2.2.2.1 ∧ s8 n u m op (px_lvl src n (px_one src n u r) 0) (G_X8 k).1 := by
  have tower : ∀ (r op k : Nat), s8 n u m op (px_one src n u r) (G_X8 k).2.2.2.2.2.1 → s8 n u m op (px_lvl src n (px_one src n u r) 0) (G_X8 (k + 5)).1 := by
    intro r op k h1
    have a0 := one_adv (src := src) (n := n) (u := u) r
    have a4 := join_adv (src := src) (lvl := 4) (most := 50) (by decide) a0
    have a3 := join_adv (src := src) (lvl := 3) (most := 50) (by decide) a4
    have a2 := join_adv (src := src) (lvl := 2) (most := 1) (by decide) a3
    have a1 := join_adv (src := src) (lvl := 1) (most := 50) (by decide) a2
    have j4 : s8 n u m op _ (G_X8 (k + 1)).2.2.2.2.1 := times8 he h1 a0
    have j3 : s8 n u m op _ (G_X8 (k + 2)).2.2.2.1 := sum8 he j4 a4
    have j2 : s8 n u m op _ (G_X8 (k + 3)).2.2.1 := cmp8 he j3 a3
    have j1 : s8 n u m op _ (G_X8 (k + 4)).2.1 := alls8 he j2 a2
    exact any8 he j1 a1
  intro r
  induction r with
  | zero =>
    intro op k hd hk
    obtain ⟨k, rfl⟩ : ∃ j, k = j + 7 := ⟨k - 7, by omega⟩
    have h1 : s8 n u m op (px_one src n u 0) (G_X8 (k + 2)).2.2.2.2.2.1 := one8 (rA := (G_X8 (k + 1)).1) (rL := (G_X8 (k + 1)).2.1) (rC := (G_X8 (k + 1)).2.2.1) (rS := (G_X8 (k + 1)).2.2.2.1) (rT := (G_X8 (k + 1)).2.2.2.2.1) (rO := (G_X8 (k + 1)).2.2.2.2.2.1) (rP := (G_X8 (k + 1)).2.2.2.2.2.2) he hu (fun i z code h1 h2 h3 h4 => opens8 (rA := (G_X8 (k)).1) (rL := (G_X8 (k)).2.1) (rC := (G_X8 (k)).2.2.1) (rS := (G_X8 (k)).2.2.2.1) (rT := (G_X8 (k)).2.2.2.2.1) (rO := (G_X8 (k)).2.2.2.2.2.1) (rP := (G_X8 (k)).2.2.2.2.2.2) he hd (fun r' e => by omega) (fun r' e => by omega) h1 h2 h3 h4)
    exact ⟨h1, tower 0 op (k + 2) h1⟩
  | succ r ih =>
    intro op k hd hk
    obtain ⟨k, rfl⟩ : ∃ j, k = j + 7 := ⟨k - 7, by omega⟩
    have i1 := (ih (op + 1) k (by omega) (by omega)).2
    have i2 := (ih (op + 1) (k + 5) (by omega) (by omega)).1
    have h1 : s8 n u m op (px_one src n u (r + 1)) (G_X8 (k + 2)).2.2.2.2.2.1 := one8 (rA := (G_X8 (k + 1)).1) (rL := (G_X8 (k + 1)).2.1) (rC := (G_X8 (k + 1)).2.2.1) (rS := (G_X8 (k + 1)).2.2.2.1) (rT := (G_X8 (k + 1)).2.2.2.2.1) (rO := (G_X8 (k + 1)).2.2.2.2.2.1) (rP := (G_X8 (k + 1)).2.2.2.2.2.2) he hu (fun i z code h1 h2 h3 h4 => opens8 (rA := (G_X8 (k)).1) (rL := (G_X8 (k)).2.1) (rC := (G_X8 (k)).2.2.1) (rS := (G_X8 (k)).2.2.2.1) (rT := (G_X8 (k)).2.2.2.2.1) (rO := (G_X8 (k)).2.2.2.2.2.1) (rP := (G_X8 (k)).2.2.2.2.2.2) he hd (fun r' e => by
        have : r' = r := by omega
        subst this
        exact i2) (fun r' e => by
        have : r' = r := by omega
        subst this
        exact i1) h1 h2 h3 h4)
    exact ⟨h1, tower (r + 1) op (k + 2) h1⟩
