-- ===== a text: how far it is read =====
def px_adv (n : Nat) (px : Nat → px_R) : Prop := ∀ i, i ≤ n → (px i).1 ≤ n ∧ i ≤ (px i).1 ∧ ((px i).2.1 = true → i < (px i).1 ∧ (px i).2.2.length + i ≤ (px i).1)
theorem sg_lt {src : Nat → Int32} {n i : Nat} {x : Int32} (h : px_sg src n i = x) (hx : x ≠ -1) : i < n := by
  unfold px_sg at h
  by_cases hi : i < n
  · exact hi
  · rw [if_neg hi] at h
    exact absurd h.symm hx
theorem num_adv {src : Nat → Int32} {n : Nat} : ∀ (k i : Nat) (v : Int32), i ≤ n → (px_num src n k i v).1 ≤ n ∧ i ≤ (px_num src n k i v).1 := by
  intro k
  induction k with
  | zero => intro i v h; exact ⟨h, Nat.le_refl _⟩
  | succ k ih =>
    intro i v h
    rw [px_num]
    by_cases hd : 48 ≤ px_sg src n i ∧ px_sg src n i ≤ 57
    · rw [if_pos hd]
      have hi : i < n := sg_lt rfl (fun q => by rw [q] at hd; exact absurd hd.1 (by decide))
      obtain ⟨h1, h2⟩ := ih (i + 1) (v * 10 + px_sg src n i - 48) (by omega)
      exact ⟨h1, by omega⟩
    · rw [if_neg hd]
      exact ⟨h, Nat.le_refl _⟩
theorem lev_m1 {x : Int32} {l : Int32} (h : px_lev x = l) (hl : l ≠ -1) : x ≠ -1 := by
  rintro rfl
  exact hl h.symm
theorem loop_adv {src : Nat → Int32} {n : Nat} {lvl : Int32} {sub : Nat → px_R} (hl : lvl ≠ -1) (hs : px_adv n sub) : ∀ (f i : Nat) (c : List (Int32 × Int32)), i ≤ n → (px_loop src n lvl sub f i c).1 ≤ n ∧ i ≤ (px_loop src n lvl sub f i c).1 ∧ ((px_loop src n lvl sub f i c).2.1 = true → (px_loop src n lvl sub f i c).2.2.length + i ≤ (px_loop src n lvl sub f i c).1 + c.length) := by
  intro f
  induction f with
  | zero => intro i c h; exact ⟨h, Nat.le_refl _, fun _ => by rw [px_loop]; dsimp only; omega⟩
  | succ f ih =>
    intro i c h
    rw [px_loop]
    by_cases hv : px_lev (px_sg src n i) = lvl
    · have hi : i < n := sg_lt rfl (lev_m1 hv hl)
      obtain ⟨a1, a2, a3⟩ := hs (i + 1) (by omega)
      rw [if_pos hv]
      by_cases ho : (sub (i + 1)).2.1 = true
      · rw [if_pos ho]
        obtain ⟨a4, a5⟩ := a3 ho
        obtain ⟨b1, b2, b3⟩ := ih (sub (i + 1)).1 (c ++ (sub (i + 1)).2.2 ++ [(px_sg src n i, 0)]) a1
        refine ⟨b1, by omega, fun q => ?_⟩
        have := b3 q
        rw [List.length_append, List.length_append, List.length_singleton] at this
        omega
      · rw [if_neg ho]
        exact ⟨a1, by dsimp only; omega, fun q => by cases q⟩
    · rw [if_neg hv]
      exact ⟨h, Nat.le_refl _, fun _ => by dsimp only; omega⟩
theorem join_adv {src : Nat → Int32} {n most : Nat} {lvl : Int32} {sub : Nat → px_R} (hl : lvl ≠ -1) (hs : px_adv n sub) : px_adv n (px_join src n lvl most sub) := by
  intro i hi
  obtain ⟨a1, a2, a3⟩ := hs i hi
  unfold px_join
  by_cases ho : (sub i).2.1 = true
  · rw [if_pos ho]
    obtain ⟨a4, a5⟩ := a3 ho
    obtain ⟨b1, b2, b3⟩ := loop_adv (src := src) hl hs most (sub i).1 (sub i).2.2 a1
    refine ⟨b1, by omega, fun q => ?_⟩
    have := b3 q
    constructor <;> omega
  · rw [if_neg ho]
    exact ⟨a1, a2, fun q => by cases q⟩
theorem lvl_adv {src : Nat → Int32} {n : Nat} {one : Nat → px_R} (hs : px_adv n one) : px_adv n (px_lvl src n one 0) := by
  show px_adv n (px_join src n 0 50 (px_join src n 1 50 (px_join src n 2 1 (px_join src n 3 50 (px_join src n 4 50 one)))))
  exact join_adv (by decide) (join_adv (by decide) (join_adv (by decide) (join_adv (by decide) (join_adv (by decide) hs))))
theorem nm_m1 {u : Nat} : px_nm u (-1) = none := by
  unfold px_nm
  split <;> rfl
theorem one_adv {src : Nat → Int32} {n u : Nat} : ∀ r, px_adv n (px_one src n u r) := by
  have base : ∀ (i : Nat) (R : px_R), i ≤ n → (R.1 ≤ n ∧ i ≤ R.1 ∧ (R.2.1 = true → i < R.1 ∧ R.2.2.length + i ≤ R.1)) → ∀ X : px_R, (X = if i < (px_num src n 4 i 0).1 then ((px_num src n 4 i 0).1, true, [(1, (px_num src n 4 i 0).2)]) else match px_nm u (px_sg src n i) with | some k => (i + 1, true, [(2, k)]) | none => R) → (X.1 ≤ n ∧ i ≤ X.1 ∧ (X.2.1 = true → i < X.1 ∧ X.2.2.length + i ≤ X.1)) := by
    intro i R hi hR X hX
    obtain ⟨n1, n2⟩ := num_adv (src := src) 4 i 0 hi
    by_cases hd : i < (px_num src n 4 i 0).1
    · rw [if_pos hd] at hX
      subst hX
      refine ⟨n1, n2, fun _ => ⟨hd, ?_⟩⟩
      show 1 + i ≤ _
      omega
    · rw [if_neg hd] at hX
      cases hm : px_nm u (px_sg src n i) with
      | some k =>
        rw [hm] at hX
        subst hX
        have hlt : i < n := sg_lt rfl (fun q => by rw [q, nm_m1] at hm; cases hm)
        refine ⟨by dsimp only; omega, by dsimp only; omega, fun _ => ⟨by dsimp only; omega, ?_⟩⟩
        show 1 + i ≤ i + 1
        omega
      | none =>
        rw [hm] at hX
        dsimp only at hX
        subst hX
        exact hR
  intro r
  induction r with
  | zero =>
    intro i hi
    exact base i (i, false, []) hi ⟨hi, Nat.le_refl _, fun q => by cases q⟩ _ (by rw [px_one]; rfl)
  | succ r ih =>
    intro i hi
    refine base i (if px_sg src n i = 33 then (if (px_one src n u r (i + 1)).2.1 = true then ((px_one src n u r (i + 1)).1, true, (px_one src n u r (i + 1)).2.2 ++ [(3, 0)]) else ((px_one src n u r (i + 1)).1, false, [])) else if px_sg src n i = 40 then (if (px_lvl src n (px_one src n u r) 0 (i + 1)).2.1 = true ∧ px_sg src n (px_lvl src n (px_one src n u r) 0 (i + 1)).1 = 41 then ((px_lvl src n (px_one src n u r) 0 (i + 1)).1 + 1, true, (px_lvl src n (px_one src n u r) 0 (i + 1)).2.2) else ((px_lvl src n (px_one src n u r) 0 (i + 1)).1, false, [])) else (i, false, [])) hi ?_ _ (by rw [px_one]; rfl)
    by_cases h33 : px_sg src n i = 33
    · have hlt : i < n := sg_lt h33 (by decide)
      obtain ⟨a1, a2, a3⟩ := ih (i + 1) (by omega)
      rw [if_pos h33]
      by_cases ho : (px_one src n u r (i + 1)).2.1 = true
      · rw [if_pos ho]
        obtain ⟨a4, a5⟩ := a3 ho
        refine ⟨a1, by dsimp only; omega, fun _ => ⟨by dsimp only; omega, ?_⟩⟩
        dsimp only
        rw [List.length_append, List.length_singleton]
        omega
      · rw [if_neg ho]
        exact ⟨a1, by dsimp only; omega, fun q => by cases q⟩
    · rw [if_neg h33]
      by_cases h40 : px_sg src n i = 40
      · have hlt : i < n := sg_lt h40 (by decide)
        obtain ⟨a1, a2, a3⟩ := lvl_adv (src := src) ih (i + 1) (by omega)
        rw [if_pos h40]
        by_cases ho : (px_lvl src n (px_one src n u r) 0 (i + 1)).2.1 = true ∧ px_sg src n (px_lvl src n (px_one src n u r) 0 (i + 1)).1 = 41
        · rw [if_pos ho]
          obtain ⟨a4, a5⟩ := a3 ho.1
          have := sg_lt ho.2 (by decide)
          exact ⟨by dsimp only; omega, by dsimp only; omega, fun _ => ⟨by dsimp only; omega, by dsimp only; omega⟩⟩
        · rw [if_neg ho]
          exact ⟨a1, by dsimp only; omega, fun q => by cases q⟩
      · rw [if_neg h40]
        exact ⟨hi, Nat.le_refl _, fun q => by cases q⟩
theorem one_num {src : Nat → Int32} {n u r i : Nat} (h : i < (px_num src n 4 i 0).1) : px_one src n u r i = ((px_num src n 4 i 0).1, true, [(1, (px_num src n 4 i 0).2)]) := by
  cases r <;> rw [px_one, if_pos h]
theorem one_nm {src : Nat → Int32} {n u r i : Nat} {k : Int32} (h : ¬ i < (px_num src n 4 i 0).1) (hk : px_nm u (px_sg src n i) = some k) : px_one src n u r i = (i + 1, true, [(2, k)]) := by
  cases r <;> rw [px_one, if_neg h, hk]
theorem one_0 {src : Nat → Int32} {n u i : Nat} (h : ¬ i < (px_num src n 4 i 0).1) (hk : px_nm u (px_sg src n i) = none) : px_one src n u 0 i = (i, false, []) := by
  rw [px_one, if_neg h, hk]
theorem one_s {src : Nat → Int32} {n u r i : Nat} (h : ¬ i < (px_num src n 4 i 0).1) (hk : px_nm u (px_sg src n i) = none) : px_one src n u (r + 1) i = if px_sg src n i = 33 then (if (px_one src n u r (i + 1)).2.1 = true then ((px_one src n u r (i + 1)).1, true, (px_one src n u r (i + 1)).2.2 ++ [(3, 0)]) else ((px_one src n u r (i + 1)).1, false, [])) else if px_sg src n i = 40 then (if (px_lvl src n (px_one src n u r) 0 (i + 1)).2.1 = true ∧ px_sg src n (px_lvl src n (px_one src n u r) 0 (i + 1)).1 = 41 then ((px_lvl src n (px_one src n u r) 0 (i + 1)).1 + 1, true, (px_lvl src n (px_one src n u r) 0 (i + 1)).2.2) else ((px_lvl src n (px_one src n u r) 0 (i + 1)).1, false, [])) else (i, false, []) := by
  rw [px_one, if_neg h, hk]
-- ===== steps on a pile =====
def px_m0 : bv_Mem := fun _ _ => 0
def px_run (fa : Nat → Int32) : List (Int32 × Int32) → List Int32 → Option (List Int32)
  | [], st => some st
  | (w, x) :: t, st => if w = 1 then px_run fa t (x :: st) else if w = 2 then (if bv_in x 3 = true then px_run fa t (fa x.toNatClampNeg :: st) else none) else if w = 3 then (match st with
    | [] => none
    | a :: s => px_run fa t ((if a = 0 then 1 else 0) :: s)) else (match st with
    | b :: a :: s => (f_X8_twoOf w a b px_m0).bind fun z => px_run fa t (z :: s)
    | _ => none)
theorem run_cons {fa : Nat → Int32} (w x : Int32) (t : List (Int32 × Int32)) (st : List Int32) : px_run fa ((w, x) :: t) st = if w = 1 then px_run fa t (x :: st) else if w = 2 then (if bv_in x 3 = true then px_run fa t (fa x.toNatClampNeg :: st) else none) else if w = 3 then (match st with
    | [] => none
    | a :: s => px_run fa t ((if a = 0 then 1 else 0) :: s)) else (match st with
    | b :: a :: s => (f_X8_twoOf w a b px_m0).bind fun z => px_run fa t (z :: s)
    | _ => none) := rfl
theorem run_nil {fa : Nat → Int32} (st : List Int32) : px_run fa [] st = some st := rfl
theorem run_app {fa : Nat → Int32} : ∀ (c d : List (Int32 × Int32)) (st : List Int32), px_run fa (c ++ d) st = (px_run fa c st).bind fun s => px_run fa d s := by
  intro c
  induction c with
  | nil => intro d st; rfl
  | cons h t ih =>
    intro d st
    obtain ⟨w, x⟩ := h
    rw [List.cons_append, run_cons, run_cons]
    by_cases h1 : w = 1
    · rw [if_pos h1, if_pos h1, ih]
    · rw [if_neg h1, if_neg h1]
      by_cases h2 : w = 2
      · rw [if_pos h2, if_pos h2]
        by_cases h3 : bv_in x 3 = true
        · rw [if_pos h3, if_pos h3, ih]
        · rw [if_neg h3, if_neg h3]; rfl
      · rw [if_neg h2, if_neg h2]
        by_cases h3 : w = 3
        · rw [if_pos h3, if_pos h3]
          cases st with
          | nil => rfl
          | cons a s => exact ih d _
        · rw [if_neg h3, if_neg h3]
          match st with
          | [] => rfl
          | [a] => rfl
          | b :: a :: s =>
            dsimp only
            cases f_X8_twoOf w a b px_m0 with
            | none => rfl
            | some z => exact ih d _
/-- steps that lay one number -/
def px_val (fa : Nat → Int32) (c : List (Int32 × Int32)) (v : Int32) : Prop := ∀ st, px_run fa c st = some (v :: st)
theorem val_num {fa : Nat → Int32} {x : Int32} : px_val fa [(1, x)] x := fun st => rfl
theorem val_nm {fa : Nat → Int32} {k : Nat} (h : k < 3) : px_val fa [(2, nI k)] (fa k) := by
  intro st
  rw [run_cons, if_neg (by decide), if_pos rfl, if_pos (nb_in h (by omega)), nI_clamp (by omega), run_nil]
theorem val_not {fa : Nat → Int32} {c : List (Int32 × Int32)} {v : Int32} (h : px_val fa c v) : px_val fa (c ++ [(3, 0)]) (if v = 0 then 1 else 0) := by
  intro st
  rw [run_app, h st]
  rfl
theorem val_two {fa : Nat → Int32} {c d : List (Int32 × Int32)} {v w x z : Int32} (h : px_val fa c v) (g : px_val fa d w) (h1 : ¬ x = 1) (h2 : ¬ x = 2) (h3 : ¬ x = 3) (hz : f_X8_twoOf x v w px_m0 = some z) : px_val fa (c ++ d ++ [(x, 0)]) z := by
  intro st
  rw [run_app, run_app, h st]
  show ((px_run fa d (v :: st)).bind fun s => px_run fa [(x, 0)] s) = _
  rw [g (v :: st)]
  show px_run fa [(x, 0)] (w :: v :: st) = _
  rw [run_cons, if_neg h1, if_neg h2, if_neg h3]
  dsimp only
  rw [hz]
  rfl
/-- the signs that join -/
theorem lev_cases {x l : Int32} (h : px_lev x = l) (hl : l ≠ -1) : (x = 37 ∧ l = 4) ∨ (x = 38 ∧ l = 1) ∨ (x = 42 ∧ l = 4) ∨ (x = 43 ∧ l = 3) ∨ (x = 45 ∧ l = 3) ∨ (x = 47 ∧ l = 4) ∨ (x = 60 ∧ l = 2) ∨ (x = 61 ∧ l = 2) ∨ (x = 62 ∧ l = 2) ∨ (x = 124 ∧ l = 0) := by
  unfold px_lev at h
  by_cases h1 : x = 37
  · rw [if_pos h1] at h; exact Or.inl ⟨h1, h.symm⟩
  rw [if_neg h1] at h
  by_cases h2 : x = 38
  · rw [if_pos h2] at h; exact Or.inr (Or.inl ⟨h2, h.symm⟩)
  rw [if_neg h2] at h
  by_cases h3 : x = 42
  · rw [if_pos h3] at h; exact Or.inr (Or.inr (Or.inl ⟨h3, h.symm⟩))
  rw [if_neg h3] at h
  by_cases h4 : x = 43
  · rw [if_pos h4] at h; exact Or.inr (Or.inr (Or.inr (Or.inl ⟨h4, h.symm⟩)))
  rw [if_neg h4] at h
  by_cases h5 : x = 45
  · rw [if_pos h5] at h; exact Or.inr (Or.inr (Or.inr (Or.inr (Or.inl ⟨h5, h.symm⟩))))
  rw [if_neg h5] at h
  by_cases h6 : x = 47
  · rw [if_pos h6] at h; exact Or.inr (Or.inr (Or.inr (Or.inr (Or.inr (Or.inl ⟨h6, h.symm⟩)))))
  rw [if_neg h6] at h
  by_cases h7 : x = 60
  · rw [if_pos h7] at h; exact Or.inr (Or.inr (Or.inr (Or.inr (Or.inr (Or.inr (Or.inl ⟨h7, h.symm⟩))))))
  rw [if_neg h7] at h
  by_cases h8 : x = 61
  · rw [if_pos h8] at h; exact Or.inr (Or.inr (Or.inr (Or.inr (Or.inr (Or.inr (Or.inr (Or.inl ⟨h8, h.symm⟩)))))))
  rw [if_neg h8] at h
  by_cases h9 : x = 62
  · rw [if_pos h9] at h; exact Or.inr (Or.inr (Or.inr (Or.inr (Or.inr (Or.inr (Or.inr (Or.inr (Or.inl ⟨h9, h.symm⟩))))))))
  rw [if_neg h9] at h
  by_cases h10 : x = 124
  · rw [if_pos h10] at h; exact Or.inr (Or.inr (Or.inr (Or.inr (Or.inr (Or.inr (Or.inr (Or.inr (Or.inr ⟨h10, h.symm⟩))))))))
  rw [if_neg h10] at h
  exact absurd h.symm hl
theorem lev7 (x : Int32) (mi : bv_Mem) : f_X2_levelOf x mi = some (px_lev x) := by
  unfold f_X2_levelOf px_lev
  repeat' (first | rfl | split)
theorem lev_123 {x l : Int32} (h : px_lev x = l) (hl : l ≠ -1) : ¬ x = 1 ∧ ¬ x = 2 ∧ ¬ x = 3 := by
  rcases lev_cases h hl with ⟨rfl, -⟩ | ⟨rfl, -⟩ | ⟨rfl, -⟩ | ⟨rfl, -⟩ | ⟨rfl, -⟩ | ⟨rfl, -⟩ | ⟨rfl, -⟩ | ⟨rfl, -⟩ | ⟨rfl, -⟩ | ⟨rfl, -⟩ <;> decide
theorem two_m (w a b : Int32) (m m' : bv_Mem) : f_X8_twoOf w a b m = f_X8_twoOf w a b m' := rfl
theorem two7 {x l : Int32} (h : px_lev x = l) (hl : l ≠ -1) (a b : Int32) (c m : bv_Mem) : ∃ z, f_X2_joined a x b c = some z ∧ f_X8_twoOf x a b m = some z := by
  rcases lev_cases h hl with ⟨rfl, -⟩ | ⟨rfl, -⟩ | ⟨rfl, -⟩ | ⟨rfl, -⟩ | ⟨rfl, -⟩ | ⟨rfl, -⟩ | ⟨rfl, -⟩ | ⟨rfl, -⟩ | ⟨rfl, -⟩ | ⟨rfl, -⟩
  · by_cases hb : b = 0
    · exact ⟨0, by simp [f_X2_joined, hb], by simp [f_X8_twoOf, hb]⟩
    · exact ⟨a - a / b * b, by simp [f_X2_joined, hb], by simp [f_X8_twoOf, hb]⟩
  · by_cases ha : a = 0
    · exact ⟨0, by simp [f_X2_joined, ha], by simp [f_X8_twoOf, ha]⟩
    · by_cases hb : b = 0
      · exact ⟨0, by simp [f_X2_joined, hb], by simp [f_X8_twoOf, hb]⟩
      · exact ⟨1, by simp [f_X2_joined, ha, hb], by simp [f_X8_twoOf, ha, hb]⟩
  · exact ⟨a * b, by simp [f_X2_joined], by simp [f_X8_twoOf]⟩
  · exact ⟨a + b, by simp [f_X2_joined], by simp [f_X8_twoOf]⟩
  · exact ⟨a - b, by simp [f_X2_joined], by simp [f_X8_twoOf]⟩
  · by_cases hb : b = 0
    · exact ⟨0, by simp [f_X2_joined, f_X7_quotient, hb], by simp [f_X8_twoOf, hb]⟩
    · exact ⟨a / b, by simp [f_X2_joined, f_X7_quotient, hb], by simp [f_X8_twoOf, hb]⟩
  · by_cases hb : b ≤ a
    · exact ⟨0, by simp [f_X2_joined, hb], by simp [f_X8_twoOf, hb]⟩
    · exact ⟨1, by simp [f_X2_joined, hb], by simp [f_X8_twoOf, hb]⟩
  · by_cases hb : a = b
    · exact ⟨1, by simp [f_X2_joined, hb], by simp [f_X8_twoOf, hb]⟩
    · exact ⟨0, by simp [f_X2_joined, hb], by simp [f_X8_twoOf, hb]⟩
  · by_cases hb : a ≤ b
    · exact ⟨0, by simp [f_X2_joined, hb], by simp [f_X8_twoOf, hb]⟩
    · exact ⟨1, by simp [f_X2_joined, hb], by simp [f_X8_twoOf, hb]⟩
  · by_cases ha : a = 0
    · by_cases hb : b = 0
      · exact ⟨0, by simp [f_X2_joined, ha, hb], by simp [f_X8_twoOf, ha, hb]⟩
      · exact ⟨1, by simp [f_X2_joined, ha, hb], by simp [f_X8_twoOf, ha, hb]⟩
    · exact ⟨1, by simp [f_X2_joined, ha], by simp [f_X8_twoOf, ha]⟩
