-- ===== numbers =====
theorem lit_nI (n : Nat) [OfNat Int32 n] : (Int32.ofNat n) = nI n := rfl
theorem nb_in {n N : Nat} (h : n < N) (hN : N < 2 ^ 31) : bv_in (nI n) N = true := by
  unfold bv_in
  rw [nI_clamp (by omega)]
  have h1 := nI_pos (n := n) (by omega)
  simp [h1, h]
theorem n_lit {x : Int32} {n : Nat} (h : x = Int32.ofNat n) : x = nI n := h
-- ===== the texts: how one is read, to steps on a pile =====
abbrev px_R : Type := Nat × Bool × List (Int32 × Int32)
def px_sg (src : Nat → Int32) (n i : Nat) : Int32 := if i < n then src i else -1
def px_lev (x : Int32) : Int32 := if x = 37 then 4 else if x = 38 then 1 else if x = 42 then 4 else if x = 43 then 3 else if x = 45 then 3 else if x = 47 then 4 else if x = 60 then 2 else if x = 61 then 2 else if x = 62 then 2 else if x = 124 then 0 else -1
def px_nm (u : Nat) (x : Int32) : Option Int32 := if u = 0 then (if x = 104 then some 0 else if x = 115 then some 1 else if x = 100 then some 2 else none) else (if x = 107 then some 0 else if x = 108 then some 1 else if x = 97 then some 2 else none)
def px_num (src : Nat → Int32) (n : Nat) : Nat → Nat → Int32 → Nat × Int32
  | 0, i, v => (i, v)
  | k + 1, i, v => if 48 ≤ px_sg src n i ∧ px_sg src n i ≤ 57 then px_num src n k (i + 1) (v * 10 + px_sg src n i - 48) else (i, v)
def px_loop (src : Nat → Int32) (n : Nat) (lvl : Int32) (sub : Nat → px_R) : Nat → Nat → List (Int32 × Int32) → px_R
  | 0, i, c => (i, true, c)
  | f + 1, i, c => if px_lev (px_sg src n i) = lvl then (if (sub (i + 1)).2.1 = true then px_loop src n lvl sub f (sub (i + 1)).1 (c ++ (sub (i + 1)).2.2 ++ [(px_sg src n i, 0)]) else ((sub (i + 1)).1, false, [])) else (i, true, c)
def px_join (src : Nat → Int32) (n : Nat) (lvl : Int32) (most : Nat) (sub : Nat → px_R) (i : Nat) : px_R := if (sub i).2.1 = true then px_loop src n lvl sub most (sub i).1 (sub i).2.2 else ((sub i).1, false, [])
def px_lvl (src : Nat → Int32) (n : Nat) (one : Nat → px_R) (lvl : Nat) : Nat → px_R := match lvl with
  | 0 => px_join src n 0 50 (px_join src n 1 50 (px_join src n 2 1 (px_join src n 3 50 (px_join src n 4 50 one))))
  | 1 => px_join src n 1 50 (px_join src n 2 1 (px_join src n 3 50 (px_join src n 4 50 one)))
  | 2 => px_join src n 2 1 (px_join src n 3 50 (px_join src n 4 50 one))
  | 3 => px_join src n 3 50 (px_join src n 4 50 one)
  | _ => px_join src n 4 50 one
def px_one (src : Nat → Int32) (n u : Nat) : Nat → Nat → px_R
  | 0, i => if i < (px_num src n 4 i 0).1 then ((px_num src n 4 i 0).1, true, [(1, (px_num src n 4 i 0).2)]) else match px_nm u (px_sg src n i) with
    | some k => (i + 1, true, [(2, k)])
    | none => (i, false, [])
  | r + 1, i => if i < (px_num src n 4 i 0).1 then ((px_num src n 4 i 0).1, true, [(1, (px_num src n 4 i 0).2)]) else match px_nm u (px_sg src n i) with
    | some k => (i + 1, true, [(2, k)])
    | none => if px_sg src n i = 33 then (if (px_one src n u r (i + 1)).2.1 = true then ((px_one src n u r (i + 1)).1, true, (px_one src n u r (i + 1)).2.2 ++ [(3, 0)]) else ((px_one src n u r (i + 1)).1, false, []))
      else if px_sg src n i = 40 then (if (px_lvl src n (px_one src n u r) 0 (i + 1)).2.1 = true ∧ px_sg src n (px_lvl src n (px_one src n u r) 0 (i + 1)).1 = 41 then ((px_lvl src n (px_one src n u r) 0 (i + 1)).1 + 1, true, (px_lvl src n (px_one src n u r) 0 (i + 1)).2.2) else ((px_lvl src n (px_one src n u r) 0 (i + 1)).1, false, []))
      else (i, false, [])
/-- the whole of a text -/
def px_all (src : Nat → Int32) (n u : Nat) : px_R := px_lvl src n (px_one src n u 5) 0 0
def px_src (by_ : Nat → Int32) : Nat → Int32 := fun i => if i < 50 then by_ i &&& 255 else 0
/-- a TEXT as the class has it (its bytes, its length) and as the reference has it (steps) -/
def bt_X (u : Nat) (by_ : Nat → Int32) (len : Int32) (cd : Nat → Int32) : Prop := ∃ n : Nat, n ≤ 50 ∧ len = nI n ∧ ((n = 0 ∧ cd 0 = 0) ∨ (0 < n ∧ ∃ c : List (Int32 × Int32), px_all (px_src by_) n u = (n, true, c) ∧ 0 < c.length ∧ c.length ≤ 50 ∧ cd 0 = nI c.length ∧ ∀ k, k < c.length → cd (1 + k) = (c.getD k (0, 0)).1 ∧ cd (51 + k) = (c.getD k (0, 0)).2))
-- ===== what the class and the reference have in common =====
def bt_by (x : Int32) : Prop := x.toInt8.toInt32 = x
/-- a Town's numbers are what they may be -/
def bt_W (t : Nat) (mi : bv_Mem) : Prop :=
  ((∃ v, v ≤ 5 ∧ mi t 2 = nI v) ∧ (∃ v, v ≤ 8 ∧ mi t 4 = nI v) ∧ (∃ v, v ≤ 9999 ∧ mi t 5 = nI v) ∧ (∃ v, v ≤ 50 ∧ mi (t + 6) 1 = nI v) ∧ (∃ v, v ≤ 20 ∧ mi t 11 = nI v)) ∧
  (∀ i, i < 5 → ∃ v, v < 20 ∧ mi (t + 4) i = nI v) ∧ (∀ i, i < 20 → ∃ v, v ≤ 20 ∧ mi (t + 2) i = nI v) ∧ (∀ i, i < 20 → ∃ v, v ≤ 99 ∧ mi (t + 3) i = nI v) ∧
  (∀ b, b < 8 → (∃ v, v < 7 ∧ mi (t + 13 + b) 0 = nI v) ∧ (∃ v, v < 10 ∧ mi (t + 13 + b) 1 = nI v) ∧ (∃ v, v < 20 ∧ mi (t + 13 + b) 2 = nI v) ∧ (∃ v, v < 1048576 ∧ mi (t + 13 + b) 3 = nI v) ∧ (∃ v, v ≤ 99 ∧ mi (t + 13 + b) 4 = nI v) ∧ (∃ v, v ≤ 1 ∧ mi (t + 13 + b) 5 = nI v)) ∧
  (∀ i, i < 50 → bt_by (mi (t + 7) i) ∧ bt_by (mi (t + 9) i) ∧ bt_by (mi (t + 11) i))
/-- the reference's row r (in m) says what the Town t (in c) says -/
def bt_R (t r : Nat) (c m : bv_Mem) : Prop :=
  (m r 0 = c t 5 ∧ m r 1 = c t 6 ∧ m r 2 = c t 2 ∧ m r 3 = c t 4 ∧ m r 4 = c (t + 6) 1 ∧ m r 5 = c t 11) ∧
  (∀ i, i < 5 → m r (6 + i) = c (t + 4) i) ∧ (∀ i, i < 20 → m r (11 + i) = c (t + 2) i) ∧ (∀ i, i < 20 → m r (31 + i) = c (t + 3) i) ∧
  (∀ b, b < 8 → ∀ k, k < 6 → m r (51 + 6 * b + k) = c (t + 13 + b) k) ∧
  (∀ i, i < 50 → m r (99 + i) = c (t + 7) i &&& 255) ∧ (∀ i, i < 20 → m r (149 + i) = c (t + 12) i) ∧
  bt_X 0 (c (t + 9)) (c (t + 8) 1) (fun k => m r (169 + k)) ∧ bt_X 1 (c (t + 11)) (c (t + 10) 1) (fun k => m r (270 + k))
def bt_num (c m : Int32) : Prop := c = m ∨ (m < 0 ∧ 100 ≤ c)
def bt_S (c m : bv_Mem) : Prop := ∀ s, s < 4 → m 71 s = c (53 + 2 * s) 0 ∧ m 72 s = c (53 + 2 * s) 1 ∧ (c (53 + 2 * s) 0 = 0 ∨ c (53 + 2 * s) 0 = 8 ∨ c (53 + 2 * s) 0 = 16 ∨ c (53 + 2 * s) 0 = 32) ∧ (∃ v, v ≤ 40 ∧ c (53 + 2 * s) 1 = nI v) ∧ ∀ i, i < 40 → bt_num (c (54 + 2 * s) i) (m 73 (40 * s + i))
def bt_V (c m : bv_Mem) : Prop := m 61 15 = c 47 1 ∧ (∃ v, v ≤ 40 ∧ c 47 1 = nI v) ∧ ∀ i, i < 40 → m 70 i = c 48 i
def bt_E (c m : bv_Mem) : Prop := ∀ k, k < 6 → m 65 k = c 50 k
/-- a Town that is kept, if there is one -/
def bt_K (c m : bv_Mem) : Prop := m 61 3 = c 0 2 ∧ (c 0 2 ≠ 0 → bt_W 22 c ∧ bt_R 22 63 c m)
def bv_J (c m : bv_Mem) : Prop := (bt_W 1 c ∧ bt_R 1 62 c m) ∧ bt_K c m ∧ bt_E c m ∧ bt_S c m ∧ bt_V c m
/-- THE INVARIANT of the law's loop -/
def bv_I (mi : bv_Mem) : Prop := bv_J mi mi
/-- what nothing is said of: rows that are used for a while -/
def bt_scr (a k : Nat) : Bool := Nat.beq a 51 || Nat.beq a 52 || Nat.beq a 43 || Nat.beq a 44 || Nat.beq a 45 || Nat.beq a 46 || Nat.beq a 64 || Nat.beq a 66 || Nat.beq a 67 || Nat.beq a 68 || Nat.beq a 69 || (Nat.beq a 61 && Nat.ble 9 k && Nat.ble k 13) || (Nat.beq a 47 && Nat.ble 2 k)
/-- the class's cells, the reference's cells, but for such rows -/
def bt_s7 (c c' : bv_Mem) : Prop := ∀ a k, a < 61 → bt_scr a k = false → c' a k = c a k
def bt_s8 (m m' : bv_Mem) : Prop := ∀ a k, 61 ≤ a → bt_scr a k = false → m' a k = m a k
theorem bt_s7.rf (c : bv_Mem) : bt_s7 c c := fun _ _ _ _ => rfl
theorem bt_s8.rf (c : bv_Mem) : bt_s8 c c := fun _ _ _ _ => rfl
theorem bt_s7.tr {a b c : bv_Mem} (h1 : bt_s7 a b) (h2 : bt_s7 b c) : bt_s7 a c := fun x k h g => (h2 x k h g).trans (h1 x k h g)
theorem bt_s8.tr {a b c : bv_Mem} (h1 : bt_s8 a b) (h2 : bt_s8 b c) : bt_s8 a c := fun x k h g => (h2 x k h g).trans (h1 x k h g)
theorem bt_s7.up {c c' : bv_Mem} (h : bt_s7 c c') {a k : Nat} {v : Int32} (hs : bt_scr a k = true ∨ 61 ≤ a) : bt_s7 c (bv_up c' a k v) := by
  intro x j hx hg
  unfold bv_up
  rw [if_neg, h x j hx hg]
  rintro ⟨rfl, rfl⟩
  rcases hs with hs | hs
  · rw [hs] at hg; cases hg
  · omega
theorem bt_s8.up {c c' : bv_Mem} (h : bt_s8 c c') {a k : Nat} {v : Int32} (hs : bt_scr a k = true ∨ a < 61) : bt_s8 c (bv_up c' a k v) := by
  intro x j hx hg
  unfold bv_up
  rw [if_neg, h x j hx hg]
  rintro ⟨rfl, rfl⟩
  rcases hs with hs | hs
  · rw [hs] at hg; cases hg
  · omega
theorem nbeq {a b : Nat} (h : a ≠ b) : Nat.beq a b = false := by
  cases hx : Nat.beq a b with
  | false => rfl
  | true => exact absurd (Nat.eq_of_beq_eq_true hx) h
theorem bt_s7.row {c c' : bv_Mem} (h : bt_s7 c c') {a : Nat} (ha : a < 43) : c' a = c a := by
  funext k
  apply h a k (by omega)
  have e1 : ∀ b, 43 ≤ b → Nat.beq a b = false := fun b hb => nbeq (by omega)
  simp [bt_scr, e1]
theorem bt_W.cg {t : Nat} {c c' : bv_Mem} (hr : ∀ a, t ≤ a → a < t + 21 → c' a = c a) (hw : bt_W t c) : bt_W t c' := by
  unfold bt_W at hw ⊢
  have hb : ∀ b, b < 8 → c' (t + 13 + b) = c (t + 13 + b) := fun b hb => hr _ (by omega) (by omega)
  rw [hr t (by omega) (by omega), hr (t + 6) (by omega) (by omega), hr (t + 4) (by omega) (by omega), hr (t + 2) (by omega) (by omega), hr (t + 3) (by omega) (by omega), hr (t + 7) (by omega) (by omega), hr (t + 9) (by omega) (by omega), hr (t + 11) (by omega) (by omega)]
  refine ⟨hw.1, hw.2.1, hw.2.2.1, hw.2.2.2.1, fun b h8 => ?_, hw.2.2.2.2.2⟩
  rw [hb b h8]
  exact hw.2.2.2.2.1 b h8
theorem bt_R.cg {t r : Nat} {c c' m m' : bv_Mem} (hr : ∀ a, t ≤ a → a < t + 21 → c' a = c a) (hm : m' r = m r) (hw : bt_R t r c m) : bt_R t r c' m' := by
  unfold bt_R at hw ⊢
  have hb : ∀ b, b < 8 → c' (t + 13 + b) = c (t + 13 + b) := fun b hb => hr _ (by omega) (by omega)
  rw [hr t (by omega) (by omega), hr (t + 6) (by omega) (by omega), hr (t + 4) (by omega) (by omega), hr (t + 2) (by omega) (by omega), hr (t + 3) (by omega) (by omega), hr (t + 7) (by omega) (by omega), hr (t + 9) (by omega) (by omega), hr (t + 11) (by omega) (by omega), hr (t + 8) (by omega) (by omega), hr (t + 10) (by omega) (by omega), hr (t + 12) (by omega) (by omega), hm]
  refine ⟨hw.1, hw.2.1, hw.2.2.1, hw.2.2.2.1, fun b h8 => ?_, hw.2.2.2.2.2⟩
  rw [hb b h8]
  exact hw.2.2.2.2.1 b h8
theorem bt_K.cg {c c' m m' : bv_Mem} (h1 : c' 0 2 = c 0 2) (h2 : m' 61 3 = m 61 3) (hr : ∀ a, 22 ≤ a → a < 43 → c' a = c a) (hm : m' 63 = m 63) (h : bt_K c m) : bt_K c' m' := by
  unfold bt_K at h ⊢
  rw [h1, h2]
  exact ⟨h.1, fun hn => ⟨(h.2 hn).1.cg (fun a h1 h2 => hr a h1 (by omega)), (h.2 hn).2.cg (fun a h1 h2 => hr a h1 (by omega)) hm⟩⟩
theorem bt_E.cg {c c' m m' : bv_Mem} (h1 : c' 50 = c 50) (h2 : m' 65 = m 65) (h : bt_E c m) : bt_E c' m' := by
  unfold bt_E at h ⊢
  rw [h1, h2]
  exact h
theorem bt_S.cg {c c' m m' : bv_Mem} (h1 : ∀ a, 53 ≤ a → a < 61 → c' a = c a) (h2 : ∀ a, 71 ≤ a → a < 74 → m' a = m a) (h : bt_S c m) : bt_S c' m' := by
  intro s hs
  obtain ⟨g1, g2, g3, g4, g5⟩ := h s hs
  rw [h2 71 (by omega) (by omega), h2 72 (by omega) (by omega), h1 (53 + 2 * s) (by omega) (by omega), h1 (54 + 2 * s) (by omega) (by omega), h2 73 (by omega) (by omega)]
  exact ⟨g1, g2, g3, g4, g5⟩
theorem bt_V.cg {c c' m m' : bv_Mem} (h1 : c' 47 1 = c 47 1) (h2 : m' 61 15 = m 61 15) (h3 : c' 48 = c 48) (h4 : m' 70 = m 70) (h : bt_V c m) : bt_V c' m' := by
  unfold bt_V at h ⊢
  rw [h1, h2, h3, h4]
  exact h
theorem bt_s7.rows {c c' : bv_Mem} (h : bt_s7 c c') {a : Nat} (ha : a < 61) (hs : ∀ k, bt_scr a k = false) : c' a = c a := funext fun k => h a k ha (hs k)
theorem bt_s8.rows {c c' : bv_Mem} (h : bt_s8 c c') {a : Nat} (ha : 61 ≤ a) (hs : ∀ k, bt_scr a k = false) : c' a = c a := funext fun k => h a k ha (hs k)
theorem bt_scr53 {a : Nat} (h1 : 53 ≤ a) (h2 : a < 61) : ∀ k, bt_scr a k = false := by
  intro k
  have e1 : ∀ b, b < 53 → Nat.beq a b = false := fun b hb => nbeq (by omega)
  have e2 : ∀ b, 61 ≤ b → Nat.beq a b = false := fun b hb => nbeq (by omega)
  simp [bt_scr, e1, e2]
theorem bt_scr71 {a : Nat} (h1 : 71 ≤ a) : ∀ k, bt_scr a k = false := by
  intro k
  have e1 : ∀ b, b < 71 → Nat.beq a b = false := fun b hb => nbeq (by omega)
  simp [bt_scr, e1]
theorem bv_J.same {c c' m m' : bv_Mem} (h7 : bt_s7 c c') (h8 : bt_s8 m m') (h : bv_J c m) : bv_J c' m' := by
  obtain ⟨⟨h1, h2⟩, h3, h5, h6, h9⟩ := h
  refine ⟨⟨h1.cg (fun a g1 g2 => h7.row (by omega)), h2.cg (fun a g1 g2 => h7.row (by omega)) (h8.rows (by omega) (fun _ => rfl))⟩, h3.cg (h7 0 2 (by omega) rfl) (h8 61 3 (by omega) rfl) (fun a g1 g2 => h7.row g2) (h8.rows (by omega) (fun _ => rfl)), h5.cg (h7.rows (by omega) (fun _ => rfl)) (h8.rows (by omega) (fun _ => rfl)), h6.cg (fun a g1 g2 => h7.rows g2 (bt_scr53 g1 g2)) (fun a g1 g2 => h8.rows (by omega) (bt_scr71 g1)), h9.cg (h7 47 1 (by omega) rfl) (h8 61 15 (by omega) rfl) (h7.rows (by omega) (fun _ => rfl)) (h8.rows (by omega) (fun _ => rfl))⟩
-- ===== errors =====
def er7 (k : Nat) (mi : bv_Mem) : bv_Mem := bv_up mi 50 k (mi 50 k + 1)
def er8 (k : Nat) (mi : bv_Mem) : bv_Mem := bv_up mi 65 k (mi 65 k + 1)
theorem x7_e1 (mi : bv_Mem) : f_X7_error 1 mi = some (-1000000001, er7 1 mi) := rfl
theorem x7_e2 (mi : bv_Mem) : f_X7_error 2 mi = some (-1000000002, er7 2 mi) := rfl
theorem x7_e3 (mi : bv_Mem) : f_X7_error 3 mi = some (-1000000003, er7 3 mi) := rfl
theorem x7_e4 (mi : bv_Mem) : f_X7_error 4 mi = some (-1000000004, er7 4 mi) := rfl
theorem x7_e5 (mi : bv_Mem) : f_X7_error 5 mi = some (-1000000005, er7 5 mi) := rfl
theorem x8_e1 (mi : bv_Mem) : f_X8_error (-1000000001) mi = some (-1000000001, er8 1 mi) := rfl
theorem x8_e2 (mi : bv_Mem) : f_X8_error (-1000000002) mi = some (-1000000002, er8 2 mi) := rfl
theorem x8_e3 (mi : bv_Mem) : f_X8_error (-1000000003) mi = some (-1000000003, er8 3 mi) := rfl
theorem x8_e4 (mi : bv_Mem) : f_X8_error (-1000000004) mi = some (-1000000004, er8 4 mi) := rfl
theorem x8_e5 (mi : bv_Mem) : f_X8_error (-1000000005) mi = some (-1000000005, er8 5 mi) := rfl
theorem er7_row {k a : Nat} {mi : bv_Mem} (h : a ≠ 50) : er7 k mi a = mi a := bv_up_row h
theorem er8_row {k a : Nat} {mi : bv_Mem} (h : a ≠ 65) : er8 k mi a = mi a := bv_up_row h
theorem J_err {c m : bv_Mem} (k : Nat) (h : bv_J c m) : bv_J (er7 k c) (er8 k m) := by
  obtain ⟨⟨h1, h2⟩, h3, h5, h6, h9⟩ := h
  refine ⟨⟨h1.cg (fun a g1 g2 => er7_row (by omega)), h2.cg (fun a g1 g2 => er7_row (by omega)) (er8_row (by omega))⟩, h3.cg (by rw [er7_row (by omega)]) (by rw [er8_row (by omega)]) (fun a g1 g2 => er7_row (by omega)) (er8_row (by omega)), ?_, h6.cg (fun a g1 g2 => er7_row (by omega)) (fun a g1 g2 => er8_row (by omega)), h9.cg (by rw [er7_row (by omega)]) (by rw [er8_row (by omega)]) (er7_row (by omega)) (er8_row (by omega))⟩
  intro j hj
  unfold er7 er8 bv_up
  by_cases hk : j = k
  · subst hk
    simp [h5 j hj]
  · simp [hk, h5 j hj]
/-- both sides tell the same error -/
theorem I_err {mi m1 m2 : bv_Mem} (k : Nat) (h : bv_I mi) (h1 : m1 = er7 k mi) (h2 : m2 = er8 k m1) : bv_I m2 := by
  have hj := J_err k h
  refine hj.same ?_ ?_
  · intro a j ha hs
    rw [h2, er8_row (by omega), h1]
  · intro a j ha hs
    rw [h2, h1]
    unfold er8
    unfold bv_up
    rw [er7_row (mi := mi) (k := k) (a := 65) (by omega)]
    split
    · rfl
    · rw [er7_row (by omega)]
