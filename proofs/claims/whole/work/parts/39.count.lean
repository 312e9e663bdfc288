-- ===== how many bits =====
def sp_pc : Nat → Nat → Nat
  | 0, _ => 0
  | n + 1, X => X % 2 + sp_pc n (X / 2)
theorem and_h (a b : Nat) : (a &&& b) / 2 = a / 2 &&& b / 2 := by
  have := Nat.and_div_two_pow (a := a) (b := b) (n := 1)
  simpa using this
theorem and_m (a b : Nat) : (a &&& b) % 2 = (a % 2) &&& (b % 2) := by
  have := Nat.and_mod_two_pow (a := a) (b := b) (n := 1)
  simpa using this
theorem or_h (a b : Nat) : (a ||| b) / 2 = a / 2 ||| b / 2 := by
  have := Nat.or_div_two_pow (a := a) (b := b) (n := 1)
  simpa using this
theorem or_m (a b : Nat) : (a ||| b) % 2 = (a % 2) ||| (b % 2) := by
  have := Nat.or_mod_two_pow (a := a) (b := b) (n := 1)
  simpa using this
theorem pc_0 : ∀ n, sp_pc n 0 = 0 := by
  intro n
  induction n with
  | zero => rfl
  | succ n ih => simp [sp_pc, ih]
theorem pc_kern : ∀ (n X : Nat), X < 2 ^ n → X ≠ 0 → sp_pc n (X &&& (X - 1)) + 1 = sp_pc n X := by
  intro n
  induction n with
  | zero => intro X h h0; omega
  | succ n ih =>
    intro X h h0
    rw [sp_pc, sp_pc, and_h, and_m]
    rcases Nat.mod_two_eq_zero_or_one X with e | e
    · have e1 : (X - 1) / 2 = X / 2 - 1 := by omega
      rw [e, e1, Nat.zero_and]
      have := ih (X / 2) (by rw [Nat.pow_succ] at h; omega) (by omega)
      omega
    · have e1 : (X - 1) / 2 = X / 2 := by omega
      have e2 : (X - 1) % 2 = 0 := by omega
      rw [e, e1, e2, Nat.and_self]
      show (1 &&& 0) + _ + 1 = _
      rw [Nat.and_zero]
      omega
theorem pc_le : ∀ (n X : Nat), sp_pc n X ≤ n := by
  intro n
  induction n with
  | zero => intro X; exact Nat.le_refl _
  | succ n ih =>
    intro X
    have := ih (X / 2)
    have h2 : X % 2 < 2 := Nat.mod_lt _ (by omega)
    rw [sp_pc]
    omega
theorem nI_andm {X : Nat} (h : X ≠ 0) : nI X &&& (nI X - 1) = nI (X &&& (X - 1)) := by
  obtain ⟨Y, rfl⟩ : ∃ Y, X = Y + 1 := ⟨X - 1, by omega⟩
  rw [show nI (Y + 1) - 1 = nI Y from nI_pred Y, nI_and, Nat.add_sub_cancel]
theorem bits8_lp {m : bv_Mem} : ∀ (n k X fu : Nat), sp_pc 20 X = n → X < 2 ^ 20 → n < fu → b_X8_bits_4 m fu (nI k) (nI X) = some (nI (k + n)) := by
  intro n
  induction n with
  | zero =>
    intro k X fu hX hX2 hf
    obtain ⟨fu, rfl⟩ : ∃ k, fu = k + 1 := ⟨fu - 1, by omega⟩
    have h0 : X = 0 := by
      rcases Nat.eq_zero_or_pos X with h | h
      · exact h
      · have := pc_kern 20 X hX2 (by omega)
        omega
    subst h0
    rw [b_X8_bits_4, if_pos (show nI 0 = 0 from rfl), Nat.add_zero]
  | succ n ih =>
    intro k X fu hX hX2 hf
    obtain ⟨fu, rfl⟩ : ∃ k, fu = k + 1 := ⟨fu - 1, by omega⟩
    have h0 : X ≠ 0 := by
      rintro rfl
      rw [pc_0] at hX
      omega
    have e1 : ¬ nI X = 0 := nI_ne0 (by omega) (by omega)
    have hk2 := pc_kern 20 X hX2 h0
    have hle : X &&& (X - 1) ≤ X := Nat.and_le_left
    rw [b_X8_bits_4, if_neg e1, nI_andm h0, show nI k + 1 = nI (k + 1) from nI_1 k]
    rw [ih (k + 1) (X &&& (X - 1)) fu (by omega) (by omega) (by omega), show k + 1 + n = k + (n + 1) by omega]
theorem bits8 {m : bv_Mem} {X : Nat} (h : X < 2 ^ 20) : f_X8_bits (nI X) m = some (nI (sp_pc 20 X)) := by
  have := bits8_lp (m := m) (sp_pc 20 X) 0 X 400 rfl h (by have := pc_le 20 X; omega)
  rw [Nat.zero_add] at this
  exact this
-- the JDK's way
theorem and16 {x y M e : Nat} (hy : y < 16) (he : e < 16) : (16 * x + y) &&& (16 * M + e) = 16 * (x &&& M) + (y &&& e) := by
  have h1 := Nat.and_div_two_pow (a := 16 * x + y) (b := 16 * M + e) (n := 4)
  have h2 := Nat.and_mod_two_pow (a := 16 * x + y) (b := 16 * M + e) (n := 4)
  have p4 : (2 : Nat) ^ 4 = 16 := rfl
  rw [p4] at h1 h2
  have a1 : (16 * x + y) / 16 = x := by omega
  have a2 : (16 * M + e) / 16 = M := by omega
  have a3 : (16 * x + y) % 16 = y := by omega
  have a4 : (16 * M + e) % 16 = e := by omega
  rw [a1, a2] at h1
  rw [a3, a4] at h2
  have h3 : y &&& e ≤ y := Nat.and_le_left
  omega
/-- five digits of four bits -/
def d5 (a b c d e : Nat) : Nat := 16 * (16 * (16 * (16 * e + d) + c) + b) + a
theorem and5 {a b c d e : Nat} (ha : a < 16) (hb : b < 16) (hc : c < 16) (hd : d < 16) (M0 M1 M2 M3 M4 : Nat) (h0 : M0 < 16) (h1 : M1 < 16) (h2 : M2 < 16) (h3 : M3 < 16) : d5 a b c d e &&& d5 M0 M1 M2 M3 M4 = d5 (a &&& M0) (b &&& M1) (c &&& M2) (d &&& M3) (e &&& M4) := by
  unfold d5
  rw [and16 ha h0, and16 hb h1, and16 hc h2, and16 hd h3]
theorem dg1 : ∀ d, d < 16 → ∀ t, t < 2 → (d / 2 + 8 * t) &&& 5 = (d / 2) &&& 5 ∧ d / 2 + 8 * t < 16 ∧ (d / 2) &&& 5 ≤ d := by decide
theorem dg2 : ∀ d, d < 16 → (d / 2) &&& 0x5555 = (d / 2) &&& 5 := by decide
theorem dg3 : ∀ d, d < 16 → d - ((d / 2) &&& 5) < 11 := by decide
theorem dg4 : ∀ f, f < 11 → ∀ t, t < 4 → (f / 4 + 4 * t) &&& 3 = (f / 4) &&& 3 ∧ f / 4 + 4 * t < 16 ∧ (f &&& 0x3333) = (f &&& 3) ∧ ((f / 4) &&& 0x3333) = ((f / 4) &&& 3) := by decide
theorem dg5 : ∀ d, d < 16 → ((d - ((d / 2) &&& 5)) &&& 3) + (((d - ((d / 2) &&& 5)) / 4) &&& 3) = sp_pc 4 d := by decide
theorem pc4_le : ∀ d, d < 16 → sp_pc 4 d ≤ 4 := by decide
theorem dg6 : ∀ x, x < 16 → x &&& 15 = x ∧ x &&& 0 = 0 ∧ x &&& 0x0f0f = x := by decide
theorem d5_sub {a b c d e a' b' c' d' e' : Nat} (h1 : a' ≤ a) (h2 : b' ≤ b) (h3 : c' ≤ c) (h4 : d' ≤ d) (h5 : e' ≤ e) : d5 a b c d e - d5 a' b' c' d' e' = d5 (a - a') (b - b') (c - c') (d - d') (e - e') := by
  unfold d5
  omega
theorem d5_add {a b c d e a' b' c' d' e' : Nat} : d5 a b c d e + d5 a' b' c' d' e' = d5 (a + a') (b + b') (c + c') (d + d') (e + e') := by
  unfold d5
  omega
theorem d5_h {a b c d e : Nat} (ha : a < 16) (hb : b < 16) (hc : c < 16) (hd : d < 16) : d5 a b c d e / 2 = d5 (a / 2 + 8 * (b % 2)) (b / 2 + 8 * (c % 2)) (c / 2 + 8 * (d % 2)) (d / 2 + 8 * (e % 2)) (e / 2) := by
  unfold d5
  omega
theorem d5_q {a b c d e : Nat} (ha : a < 16) (hb : b < 16) (hc : c < 16) (hd : d < 16) : d5 a b c d e / 4 = d5 (a / 4 + 4 * (b % 4)) (b / 4 + 4 * (c % 4)) (c / 4 + 4 * (d % 4)) (d / 4 + 4 * (e % 4)) (e / 4) := by
  unfold d5
  omega
theorem d5_16 {a b c d e : Nat} (ha : a < 16) : d5 a b c d e / 16 = d5 b c d e 0 := by
  unfold d5
  omega
theorem d5_fin {p q r : Nat} (hp : p ≤ 8) (hq : q ≤ 8) (hr : r ≤ 4) : (d5 p 0 q 0 r + d5 p 0 q 0 r / 256 + (d5 p 0 q 0 r + d5 p 0 q 0 r / 256) / 65536) % 64 = p + q + r := by
  have e1 : d5 p 0 q 0 r = p + 256 * q + 65536 * r := by
    unfold d5
    omega
  have e2 : d5 p 0 q 0 r / 256 = q + 256 * r := by
    rw [e1]
    omega
  have e3 : (d5 p 0 q 0 r + d5 p 0 q 0 r / 256) / 65536 = r := by
    rw [e2, e1]
    omega
  rw [e3, e2, e1]
  omega
def bcN (X : Nat) : Nat :=
  (fun a1 => (fun a2 => (fun a3 => (fun a4 => (a4 + a4 / 65536) &&& 63) (a3 + a3 / 256)) ((a2 + a2 / 16) &&& 0x0f0f0f0f)) ((a1 &&& 0x33333333) + ((a1 / 4) &&& 0x33333333))) (X - ((X / 2) &&& 0x55555555))
theorem pc_split (n X : Nat) : sp_pc (n + 4) X = sp_pc 4 (X % 16) + sp_pc n (X / 16) := by
  have e : sp_pc (n + 4) X = X % 2 + (X / 2 % 2 + (X / 2 / 2 % 2 + (X / 2 / 2 / 2 % 2 + sp_pc n (X / 2 / 2 / 2 / 2)))) := rfl
  have e2 : sp_pc 4 (X % 16) = X % 16 % 2 + (X % 16 / 2 % 2 + (X % 16 / 2 / 2 % 2 + (X % 16 / 2 / 2 / 2 % 2 + 0))) := rfl
  have e3 : X / 2 / 2 / 2 / 2 = X / 16 := by omega
  rw [e, e2, e3]
  omega
theorem pc_d5 {a b c d e : Nat} (ha : a < 16) (hb : b < 16) (hc : c < 16) (hd : d < 16) (he : e < 16) : sp_pc 20 (d5 a b c d e) = sp_pc 4 a + (sp_pc 4 b + (sp_pc 4 c + (sp_pc 4 d + sp_pc 4 e))) := by
  unfold d5
  rw [pc_split 16, show (16 * (16 * (16 * (16 * e + d) + c) + b) + a) % 16 = a by omega, show (16 * (16 * (16 * (16 * e + d) + c) + b) + a) / 16 = 16 * (16 * (16 * e + d) + c) + b by omega, pc_split 12, show (16 * (16 * (16 * e + d) + c) + b) % 16 = b by omega, show (16 * (16 * (16 * e + d) + c) + b) / 16 = 16 * (16 * e + d) + c by omega, pc_split 8, show (16 * (16 * e + d) + c) % 16 = c by omega, show (16 * (16 * e + d) + c) / 16 = 16 * e + d by omega, pc_split 4, show (16 * e + d) % 16 = d by omega, show (16 * e + d) / 16 = e by omega]
theorem bcN_pc {X : Nat} (h : X < 2 ^ 20) : bcN X = sp_pc 20 X := by
  obtain ⟨a, b, c, d, e, ha, hb, hc, hd, he, rfl⟩ : ∃ a b c d e, a < 16 ∧ b < 16 ∧ c < 16 ∧ d < 16 ∧ e < 16 ∧ X = d5 a b c d e := by
    refine ⟨X % 16, X / 16 % 16, X / 256 % 16, X / 4096 % 16, X / 65536, by omega, by omega, by omega, by omega, by omega, ?_⟩
    unfold d5
    omega
  rw [pc_d5 ha hb hc hd he]
  have m5 : (0x55555555 : Nat) = d5 5 5 5 5 0x5555 := by decide
  have m3 : (0x33333333 : Nat) = d5 3 3 3 3 0x3333 := by decide
  have mf : (0x0f0f0f0f : Nat) = d5 15 0 15 0 0x0f0f := by decide
  have x2 := d5_h (e := e) ha hb hc hd
  obtain ⟨a1, a2, a3⟩ := dg1 a ha (b % 2) (by omega)
  obtain ⟨b1, b2, b3⟩ := dg1 b hb (c % 2) (by omega)
  obtain ⟨c1, c2, c3⟩ := dg1 c hc (d % 2) (by omega)
  obtain ⟨d1, d2, d3⟩ := dg1 d hd (e % 2) (by omega)
  obtain ⟨-, -, e3⟩ := dg1 e he 0 (by omega)
  have s1 : d5 a b c d e - ((d5 a b c d e / 2) &&& 0x55555555) = d5 (a - (a / 2 &&& 5)) (b - (b / 2 &&& 5)) (c - (c / 2 &&& 5)) (d - (d / 2 &&& 5)) (e - (e / 2 &&& 5)) := by
    rw [x2, m5, and5 a2 b2 c2 d2 _ _ _ _ _ (by decide) (by decide) (by decide) (by decide), a1, b1, c1, d1, dg2 e he, d5_sub a3 b3 c3 d3 e3]
  have fa := dg3 a ha
  have fb := dg3 b hb
  have fc := dg3 c hc
  have fd := dg3 d hd
  have fe := dg3 e he
  have ga := dg5 a ha
  have gb := dg5 b hb
  have gc := dg5 c hc
  have gd := dg5 d hd
  have ge := dg5 e he
  generalize a - (a / 2 &&& 5) = fa_ at *
  generalize b - (b / 2 &&& 5) = fb_ at *
  generalize c - (c / 2 &&& 5) = fc_ at *
  generalize d - (d / 2 &&& 5) = fd_ at *
  generalize e - (e / 2 &&& 5) = fe_ at *
  have x4 := d5_q (a := fa_) (b := fb_) (c := fc_) (d := fd_) (e := fe_) (by omega) (by omega) (by omega) (by omega)
  obtain ⟨k1, k2, -, -⟩ := dg4 fa_ fa (fb_ % 4) (by omega)
  obtain ⟨k3, k4, -, -⟩ := dg4 fb_ fb (fc_ % 4) (by omega)
  obtain ⟨k5, k6, -, -⟩ := dg4 fc_ fc (fd_ % 4) (by omega)
  obtain ⟨k7, k8, -, -⟩ := dg4 fd_ fd (fe_ % 4) (by omega)
  obtain ⟨-, -, k9, k10⟩ := dg4 fe_ fe 0 (by omega)
  have s2 : (d5 fa_ fb_ fc_ fd_ fe_ &&& 0x33333333) + ((d5 fa_ fb_ fc_ fd_ fe_ / 4) &&& 0x33333333) = d5 (sp_pc 4 a) (sp_pc 4 b) (sp_pc 4 c) (sp_pc 4 d) (sp_pc 4 e) := by
    rw [x4, m3, and5 k2 k4 k6 k8 _ _ _ _ _ (by decide) (by decide) (by decide) (by decide), and5 (Nat.lt_trans fa (by decide)) (Nat.lt_trans fb (by decide)) (Nat.lt_trans fc (by decide)) (Nat.lt_trans fd (by decide)) _ _ _ _ _ (by decide) (by decide) (by decide) (by decide), k1, k3, k5, k7, k9, k10, d5_add, ga, gb, gc, gd, ge]
  have pa := pc4_le a ha
  have pb := pc4_le b hb
  have pc := pc4_le c hc
  have pd := pc4_le d hd
  have pe := pc4_le e he
  unfold bcN
  dsimp only
  rw [s1, s2]
  clear s1 s2 x2 x4 a1 a2 a3 b1 b2 b3 c1 c2 c3 d1 d2 d3 e3 k1 k2 k3 k4 k5 k6 k7 k8 k9 k10 fa fb fc fd fe ga gb gc gd ge m5 m3 h
  generalize sp_pc 4 a = p0 at *
  generalize sp_pc 4 b = p1 at *
  generalize sp_pc 4 c = p2 at *
  generalize sp_pc 4 d = p3 at *
  generalize sp_pc 4 e = p4 at *
  have s3 : (d5 p0 p1 p2 p3 p4 + d5 p0 p1 p2 p3 p4 / 16) &&& 0x0f0f0f0f = d5 (p0 + p1) 0 (p2 + p3) 0 p4 := by
    have z : d5 p0 p1 p2 p3 p4 + d5 p0 p1 p2 p3 p4 / 16 = d5 (p0 + p1) (p1 + p2) (p2 + p3) (p3 + p4) p4 := by
      rw [d5_16 (by omega), d5_add, Nat.add_zero]
    rw [z, mf, and5 (by omega) (by omega) (by omega) (by omega) _ _ _ _ _ (by omega) (by omega) (by omega) (by omega), (dg6 (p0 + p1) (by omega)).1, (dg6 (p1 + p2) (by omega)).2.1, (dg6 (p2 + p3) (by omega)).1, (dg6 (p3 + p4) (by omega)).2.1, (dg6 p4 (by omega)).2.2]
  rw [s3]
  have s4 : ∀ x : Nat, x &&& 63 = x % 64 := fun x => Nat.and_two_pow_sub_one_eq_mod x 6
  rw [s4, d5_fin (by omega) (by omega) pe]
  omega
theorem us1 : ((1 : Int32).toUInt32 &&& Int32.toUInt32 31).toBitVec % 32 = 1 := by decide
theorem bc7 {X : Nat} (h : X < 2 ^ 20) (c : bv_Mem) : f_J6_bitCount_0f7a4 (nI X) c = some (nI (sp_pc 20 X)) := by
  have u1 : ∀ n : Nat, n < 2 ^ 32 → ((nI n).toUInt32 >>> ((1 : Int32).toUInt32 &&& Int32.toUInt32 31)).toInt32 = nI (n / 2) := fun n hn => pk_ushrN hn 1 1 (by decide)
  have u2 : ∀ n : Nat, n < 2 ^ 32 → ((nI n).toUInt32 >>> ((2 : Int32).toUInt32 &&& Int32.toUInt32 31)).toInt32 = nI (n / 4) := fun n hn => pk_ushrN hn 2 2 (by decide)
  have u4 : ∀ n : Nat, n < 2 ^ 32 → ((nI n).toUInt32 >>> ((4 : Int32).toUInt32 &&& Int32.toUInt32 31)).toInt32 = nI (n / 16) := fun n hn => pk_ushrN hn 4 4 (by decide)
  have u8 : ∀ n : Nat, n < 2 ^ 32 → ((nI n).toUInt32 >>> ((8 : Int32).toUInt32 &&& Int32.toUInt32 31)).toInt32 = nI (n / 256) := fun n hn => pk_ushrN hn 8 8 (by decide)
  have u16 : ∀ n : Nat, n < 2 ^ 32 → ((nI n).toUInt32 >>> ((16 : Int32).toUInt32 &&& Int32.toUInt32 31)).toInt32 = nI (n / 65536) := fun n hn => pk_ushrN hn 16 16 (by decide)
  rw [← bcN_pc h]
  unfold f_J6_bitCount_0f7a4 bcN
  dsimp only
  have l1 : (X / 2) &&& 0x55555555 ≤ X / 2 := Nat.and_le_left
  have e1 : nI X - (((nI X).toUInt32 >>> ((1 : Int32).toUInt32 &&& Int32.toUInt32 31)).toInt32 &&& (1431655765 : Int32)) = nI (X - ((X / 2) &&& 0x55555555)) := by
    rw [u1 X (by omega), show (1431655765 : Int32) = nI 1431655765 from rfl, nI_and, pk_sub (by omega)]
  rw [e1]
  have la : X - ((X / 2) &&& 0x55555555) < 2 ^ 20 := by omega
  generalize X - ((X / 2) &&& 0x55555555) = a1 at *
  have l2 : a1 &&& 0x33333333 ≤ a1 := Nat.and_le_left
  have l3 : (a1 / 4) &&& 0x33333333 ≤ a1 / 4 := Nat.and_le_left
  have e2 : (nI a1 &&& (858993459 : Int32)) + (((nI a1).toUInt32 >>> ((2 : Int32).toUInt32 &&& Int32.toUInt32 31)).toInt32 &&& (858993459 : Int32)) = nI ((a1 &&& 0x33333333) + ((a1 / 4) &&& 0x33333333)) := by
    rw [u2 a1 (by omega), show (858993459 : Int32) = nI 858993459 from rfl, nI_and, nI_and, nI_add]
  rw [e2]
  have lb : (a1 &&& 0x33333333) + ((a1 / 4) &&& 0x33333333) < 2 ^ 21 := by omega
  generalize (a1 &&& 0x33333333) + ((a1 / 4) &&& 0x33333333) = a2 at *
  have l4 : (a2 + a2 / 16) &&& 0x0f0f0f0f ≤ a2 + a2 / 16 := Nat.and_le_left
  have e3 : (nI a2 + ((nI a2).toUInt32 >>> ((4 : Int32).toUInt32 &&& Int32.toUInt32 31)).toInt32) &&& (252645135 : Int32) = nI ((a2 + a2 / 16) &&& 0x0f0f0f0f) := by
    rw [u4 a2 (by omega), nI_add, show (252645135 : Int32) = nI 252645135 from rfl, nI_and]
  rw [e3]
  have lc : (a2 + a2 / 16) &&& 0x0f0f0f0f < 2 ^ 22 := by omega
  generalize (a2 + a2 / 16) &&& 0x0f0f0f0f = a3 at *
  rw [u8 a3 (by omega), nI_add, u16 _ (by omega), nI_add, show (63 : Int32) = nI 63 from rfl, nI_and]
theorem pc_or : ∀ (n W E : Nat), (∀ j, W.testBit j = true → E.testBit j = false) → sp_pc n (W ||| E) = sp_pc n W + sp_pc n E := by
  intro n
  induction n with
  | zero => intro W E _; rfl
  | succ n ih =>
    intro W E h
    rw [sp_pc, sp_pc, sp_pc, or_h, or_m, ih (W / 2) (E / 2) (fun j hj => by
      rw [Nat.testBit_div_two] at hj ⊢
      exact h (j + 1) hj)]
    have h0 := h 0
    rw [Nat.testBit_zero, Nat.testBit_zero] at h0
    rcases Nat.mod_two_eq_zero_or_one W with e | e <;> rcases Nat.mod_two_eq_zero_or_one E with e2 | e2
    · rw [e, e2]
      rw [show (0 ||| 0 : Nat) = 0 from rfl]
      omega
    · rw [e, e2]
      rw [show (0 ||| 1 : Nat) = 1 from rfl]
      omega
    · rw [e, e2]
      rw [show (1 ||| 0 : Nat) = 1 from rfl]
      omega
    · exfalso
      rw [e, e2] at h0
      simp at h0
def sp_ct (P : Nat → Bool) : Nat → Nat → Nat → Nat
  | 0, _, k => k
  | n + 1, lo, k => sp_ct P n (lo + 1) (if P lo = true then k + 1 else k)
theorem pc_two : ∀ lo, lo < 20 → sp_pc 20 (2 ^ lo) = 1 := by decide
theorem pc_mk {P : Nat → Bool} : ∀ (n lo X : Nat), lo + n ≤ 20 → X < 2 ^ lo → sp_pc 20 (sp_mk P n lo X) = sp_ct P n lo (sp_pc 20 X) := by
  intro n
  induction n with
  | zero => intro lo X _ _; rfl
  | succ n ih =>
    intro lo X h1 h2
    have hb : ∀ j, X.testBit j = true → (2 ^ lo).testBit j = false := by
      intro j hj
      rw [Nat.testBit_two_pow_of_ne]
      rintro rfl
      rw [Nat.testBit_lt_two_pow h2] at hj
      cases hj
    have h3 : X < 2 ^ (lo + 1) := by rw [Nat.pow_succ]; omega
    rw [sp_mk, sp_ct, ih (lo + 1) _ (by omega) (by split; exact or_lt h3 (by omega); exact h3)]
    congr 1
    split
    · rw [pc_or _ _ _ hb, pc_two lo (by omega)]
    · rfl
