-- ===== sets of bits =====
theorem nI_bv (n : Nat) : (nI n).toBitVec.toNat = n % 2 ^ 32 := by
  show (BitVec.ofNat 32 n).toNat = _
  rw [BitVec.toNat_ofNat]
theorem nI_or (a b : Nat) : nI a ||| nI b = nI (a ||| b) := by
  apply Int32.toBitVec_inj.mp
  apply BitVec.eq_of_toNat_eq
  show ((nI a).toBitVec ||| (nI b).toBitVec).toNat = _
  rw [BitVec.toNat_or, nI_bv, nI_bv, nI_bv, Nat.or_mod_two_pow]
theorem nI_and (a b : Nat) : nI a &&& nI b = nI (a &&& b) := by
  apply Int32.toBitVec_inj.mp
  apply BitVec.eq_of_toNat_eq
  show ((nI a).toBitVec &&& (nI b).toBitVec).toNat = _
  rw [BitVec.toNat_and, nI_bv, nI_bv, nI_bv, Nat.and_mod_two_pow]
theorem sh31 {j : Nat} (h : j < 32) : nI j &&& 31 = nI j := by
  have := pk_andN (n := j) (by omega) (m := 31) 5 rfl
  rw [this, Nat.mod_eq_of_lt (by omega)]
theorem smod32 : ∀ j, j < 32 → ((nI j).toBitVec.smod 32).toNat = j := by decide
theorem b_one {k : Nat} (h : k < 31) : (1 : Int32) <<< (nI k &&& 31) = nI (2 ^ k) := by
  rw [sh31 (by omega)]
  have h2 : 1 * 2 ^ k < 2 ^ 32 := by
    rw [Nat.one_mul]
    exact Nat.pow_lt_pow_right (by omega) (by omega)
  have := pk_shlN (n := 1) (nI k) k (smod32 k (by omega)) h2
  rw [Nat.one_mul] at this
  exact this
theorem b_bit {X j : Nat} (hX : X < 2 ^ 31) (hj : j < 32) : (nI X >>> (nI j &&& 31)) &&& 1 = nI (X / 2 ^ j % 2) := by
  rw [sh31 hj, pk_shrN hX (nI j) j (smod32 j hj)]
  have h3 : X / 2 ^ j < 2 ^ 32 := Nat.lt_of_le_of_lt (Nat.div_le_self _ _) (by omega)
  exact pk_andN h3 (m := 1) 1 rfl
theorem b_z {X j : Nat} (hX : X < 2 ^ 31) (hj : j < 32) : ((nI X >>> (nI j &&& 31)) &&& 1 = 0) ↔ X.testBit j = false := by
  rw [b_bit hX hj, show (0 : Int32) = nI 0 from rfl, nI_eq (by omega) (by omega), Nat.testBit_eq_decide_div_mod_eq]
  have : X / 2 ^ j % 2 < 2 := Nat.mod_lt _ (by omega)
  simp
theorem b_o {X j : Nat} (hX : X < 2 ^ 31) (hj : j < 32) : ((nI X >>> (nI j &&& 31)) &&& 1 = 1) ↔ X.testBit j = true := by
  rw [b_bit hX hj, show (1 : Int32) = nI 1 from rfl, nI_eq (by omega) (by omega), Nat.testBit_eq_decide_div_mod_eq]
  simp
theorem or_lt {X k N : Nat} (hX : X < 2 ^ N) (hk : k < N) : X ||| 2 ^ k < 2 ^ N := Nat.or_lt_two_pow hX (Nat.pow_lt_pow_right (by omega) hk)
/-- the places of a stretch that have something, as a set -/
def sp_mk (P : Nat → Bool) : Nat → Nat → Nat → Nat
  | 0, _, X => X
  | n + 1, lo, X => sp_mk P n (lo + 1) (if P lo = true then X ||| 2 ^ lo else X)
theorem sp_mk_lt {P : Nat → Bool} {N : Nat} : ∀ (n lo X : Nat), lo + n ≤ N → X < 2 ^ N → sp_mk P n lo X < 2 ^ N := by
  intro n
  induction n with
  | zero => intro lo X _ h; exact h
  | succ n ih =>
    intro lo X h1 h2
    rw [sp_mk]
    apply ih _ _ (by omega)
    split
    · exact or_lt h2 (by omega)
    · exact h2
theorem sp_mk_bit {P : Nat → Bool} {j : Nat} : ∀ (n lo X : Nat), (sp_mk P n lo X).testBit j = (X.testBit j || (decide (lo ≤ j ∧ j < lo + n) && P j)) := by
  intro n
  induction n with
  | zero =>
    intro lo X
    have : ¬ (lo ≤ j ∧ j < lo + 0) := by omega
    rw [sp_mk, decide_eq_false this, Bool.false_and, Bool.or_false]
  | succ n ih =>
    intro lo X
    rw [sp_mk, ih]
    by_cases hj : j = lo
    · subst hj
      have h1 : ¬ (j + 1 ≤ j ∧ j < j + 1 + n) := by omega
      have h2 : j ≤ j ∧ j < j + (n + 1) := by omega
      rw [decide_eq_false h1, decide_eq_true h2, Bool.false_and, Bool.or_false, Bool.true_and]
      split
      · rename_i hp
        rw [Nat.testBit_or, Nat.testBit_two_pow_self, hp]
      · rename_i hp
        have : P j = false := by simpa using hp
        rw [this, Bool.or_false]
    · have h1 : decide (lo + 1 ≤ j ∧ j < lo + 1 + n) = decide (lo ≤ j ∧ j < lo + (n + 1)) := by
        congr 1
        apply propext
        omega
      rw [h1]
      split
      · rw [Nat.testBit_or, Nat.testBit_two_pow_of_ne (fun q => hj q.symm), Bool.or_false]
      · rfl
theorem sp_mk_cg {P Q : Nat → Bool} : ∀ (n lo X : Nat), (∀ j, lo ≤ j → j < lo + n → P j = Q j) → sp_mk P n lo X = sp_mk Q n lo X := by
  intro n
  induction n with
  | zero => intro lo X _; rfl
  | succ n ih =>
    intro lo X h
    rw [sp_mk, sp_mk, h lo (by omega) (by omega), ih (lo + 1) _ (fun j h1 h2 => h j (by omega) (by omega))]
-- ===== seeing =====
def sp_at (a b k : Nat) : Nat := if a < b then a + k else a - k
def sp_lp (h : Nat → Int32) (th : Nat → Bool) (a b : Nat) (hi : Int32) (far : Nat) : Nat → Nat → Bool
  | 0, _ => true
  | n + 1, k => if th (sp_at a b k) = true ∧ ¬ (h (sp_at a b k) - hi) * nI far < (h b - hi) * nI k then false else sp_lp h th a b hi far n (k + 1)
def sp_far (a b : Nat) : Nat := if a < b then b - a else a - b
def sp_see (h : Nat → Int32) (th : Nat → Bool) (a b : Nat) (hi : Int32) : Bool := if a = b then false else if th b = false then false else sp_lp h th a b hi (sp_far a b) (sp_far a b - 1) 1
theorem sp_lp_cg {h h' : Nat → Int32} {th th' : Nat → Bool} {a b : Nat} {hi : Int32} {far : Nat} (h1 : ∀ p, p < 20 → h p = h' p) (h2 : ∀ p, p < 20 → th p = th' p) (ha : a < 20) (hb : b < 20) (hf : far = sp_far a b) : ∀ (n k : Nat), k + n = far → sp_lp h th a b hi far n k = sp_lp h' th' a b hi far n k := by
  intro n
  induction n with
  | zero => intro k _; rfl
  | succ n ih =>
    intro k hk
    have hp : sp_at a b k < 20 := by
      unfold sp_far at hf
      unfold sp_at
      split at hf <;> split <;> omega
    rw [sp_lp, sp_lp, h1 _ hp, h2 _ hp, h1 b hb, ih (k + 1) (by omega)]
theorem sp_see_cg {h h' : Nat → Int32} {th th' : Nat → Bool} {a b : Nat} {hi : Int32} (h1 : ∀ p, p < 20 → h p = h' p) (h2 : ∀ p, p < 20 → th p = th' p) (ha : a < 20) (hb : b < 20) : sp_see h th a b hi = sp_see h' th' a b hi := by
  unfold sp_see
  by_cases hab : a = b
  · rw [if_pos hab, if_pos hab]
  · have hf : 1 ≤ sp_far a b := by
      unfold sp_far
      split <;> omega
    rw [if_neg hab, if_neg hab, h2 b hb, sp_lp_cg h1 h2 ha hb rfl _ _ (by omega)]
theorem sp_at_lt {a b k : Nat} (ha : a < 20) (hb : b < 20) (hk : k < sp_far a b) : sp_at a b k < 20 := by
  unfold sp_far at hk
  unfold sp_at
  split at hk <;> split <;> omega
theorem c7_lp {c : bv_Mem} {G a b : Nat} {eye : Int32} {st : Int32} (ha : a < 20) (hb : b < 20) (hG : G < 2 ^ 20) (hst : ∀ k, k < sp_far a b → nI a + st * nI k = nI (sp_at a b k)) : ∀ (n k fu : Nat), k + n = sp_far a b → n < fu → b_X1_sees_60 c fu (nI a) (nI G) st (nI (sp_far a b)) eye (c 3 b - eye) (nI k) = some (if sp_lp (c 3) (fun p => !(G.testBit p)) a b eye (sp_far a b) n k = true then 1 else 0) := by
  have hfar : sp_far a b < 20 := by
    unfold sp_far
    split <;> omega
  intro n
  induction n with
  | zero =>
    intro k fu hk hf
    obtain ⟨fu, rfl⟩ : ∃ k, fu = k + 1 := ⟨fu - 1, by omega⟩
    rw [b_X1_sees_60, if_pos (nI_le (by omega) (by omega))]
    simp [sp_lp]
  | succ n ih =>
    intro k fu hk hf
    obtain ⟨fu, rfl⟩ : ∃ k, fu = k + 1 := ⟨fu - 1, by omega⟩
    have e1 : ¬ nI (sp_far a b) ≤ nI k := nI_ge (by omega) (by omega)
    have hp := sp_at_lt ha hb (k := k) (by omega)
    have e2 : bv_in (nI (sp_at a b k)) 20 = true := nb_in hp (by omega)
    have e3 : (nI (sp_at a b k)).toNatClampNeg = sp_at a b k := nI_clamp (by omega)
    rw [b_X1_sees_60, if_neg e1, hst k (by omega)]
    have ihk := ih (k + 1) fu (by omega) (by omega)
    have hb2 := b_z (X := G) (j := sp_at a b k) (by omega) (by omega)
    cases ht : G.testBit (sp_at a b k) with
    | false =>
      rw [if_pos (hb2.mpr ht), b_X1_sees_91, if_neg (by decide), if_pos e2, e3, show nI k + 1 = nI (k + 1) from nI_1 k, ihk, sp_lp]
      by_cases hq : (c 3 (sp_at a b k) - eye) * nI (sp_far a b) < (c 3 b - eye) * nI k
      · rw [if_pos hq]
        simp [hq]
      · rw [if_neg hq]
        simp [ht, hq]
    | true =>
      rw [if_neg (fun q => by rw [hb2.mp q] at ht; cases ht), b_X1_sees_91, if_pos rfl, show nI k + 1 = nI (k + 1) from nI_1 k, ihk, sp_lp]
      simp [ht]
theorem st_p {a b k : Nat} (h : a < b) : nI a + 1 * nI k = nI (sp_at a b k) := by
  unfold sp_at
  rw [if_pos h, Int32.one_mul, nI_add]
theorem st_m {a b k : Nat} (h : ¬ a < b) (hk : k ≤ a) : nI a + (-1) * nI k = nI (sp_at a b k) := by
  unfold sp_at
  rw [if_neg h, Int32.neg_mul, Int32.one_mul, ← Int32.sub_eq_add_neg, pk_sub hk]
theorem abs_far {a b : Nat} (ha : a < 20) (hb : b < 20) : bv_abs (nI b - nI a) = nI (sp_far a b) := by
  unfold bv_abs sp_far
  by_cases h : a < b
  · rw [if_pos h, pk_sub (by omega), if_pos (nI_pos' (by omega))]
  · rw [if_neg h]
    by_cases h2 : a = b
    · subst h2
      rw [pk_sub (by omega), if_pos (nI_pos' (by omega))]
    · rw [if_neg]
      · have e : nI b - nI a = 0 - (nI a - nI b) := by
          rw [Int32.zero_sub, Int32.neg_sub]
        rw [e, pk_sub (by omega), Int32.zero_sub, Int32.zero_sub, Int32.neg_neg]
      · rw [i_le, pk_sub_toInt (by omega) (by omega)]
        have : (0 : Int32).toInt = 0 := rfl
        omega
theorem see7 {c : bv_Mem} {G a b : Nat} {up : Int32} (ha : a < 20) (hb : b < 20) (hG : G < 2 ^ 20) : f_X1_sees (nI a) (nI b) up (nI G) c = some (if sp_see (c 3) (fun p => !(G.testBit p)) a b (c 3 a + up) = true then 1 else 0) := by
  unfold f_X1_sees sp_see
  by_cases hab : a = b
  · subst hab
    simp
  · have h1 : ¬ nI a = nI b := fun q => hab ((nI_eq (by omega) (by omega)).mp q)
    rw [if_neg h1, if_neg hab]
    have hb2 := b_z (X := G) (j := b) (by omega) (by omega)
    have ea : bv_in (nI a) 20 = true := nb_in ha (by omega)
    have eb : bv_in (nI b) 20 = true := nb_in hb (by omega)
    have hfar : 1 ≤ sp_far a b ∧ sp_far a b < 20 := by
      unfold sp_far
      split <;> omega
    cases ht : G.testBit b with
    | true =>
      rw [if_neg (fun q => by rw [hb2.mp q] at ht; cases ht)]
      simp [ht]
    | false =>
      rw [if_pos (hb2.mpr ht)]
      have main : ∀ st : Int32, (∀ k, k < sp_far a b → nI a + st * nI k = nI (sp_at a b k)) → b_X1_sees_26 c (nI a) (nI b) up (nI G) st = some (if sp_lp (c 3) (fun p => !(G.testBit p)) a b (c 3 a + up) (sp_far a b) (sp_far a b - 1) 1 = true then 1 else 0) := by
        intro st hst
        rw [b_X1_sees_26, if_pos ea, if_pos eb, nI_clamp (by omega), nI_clamp (by omega), abs_far ha hb]
        exact c7_lp (eye := c 3 a + up) ha hb hG hst (sp_far a b - 1) 1 400 (by omega) (by omega)
      by_cases hle : b ≤ a
      · rw [if_pos (nI_le hle (by omega)), main (-1) (fun k hk => st_m (by omega) (by unfold sp_far at hk; split at hk <;> omega))]
        simp [ht]
      · rw [if_neg (nI_ge (by omega) (by omega)), main 1 (fun k hk => st_p (by omega))]
        simp [ht]
def th8 (m : bv_Mem) (p : Nat) : Bool := decide (m 62 (31 + p) = 0)
theorem ther8 {m : bv_Mem} {p : Nat} (hp : p < 20) : f_X8_isThere (nI p) m = some (if th8 m p = true then 1 else 0) := by
  have e9 : bv_in (31 + nI p) 371 = true := in_lit (a := 31) (by omega) (by omega)
  have e10 : (31 + nI p).toNatClampNeg = 31 + p := c_lit 31 p (by omega)
  unfold f_X8_isThere th8
  rw [if_pos e9, e10]
  by_cases h : m 62 (31 + p) = 0
  · rw [if_pos h]; simp [h]
  · rw [if_neg h]; simp [h]
theorem m8_lp {m : bv_Mem} {a b : Nat} {eye : Int32} (ha : a < 20) (hb : b < 20) : ∀ (n k fu : Nat), k + n = sp_far a b → n < fu → b_X8_isSeen_38 m fu (nI a) eye (nI b) (m 62 (11 + b) - eye) (nI (sp_far a b)) (nI k) = some (if sp_lp (fun i => m 62 (11 + i)) (th8 m) a b eye (sp_far a b) n k = true then 1 else 0) := by
  have hfar : sp_far a b < 20 := by
    unfold sp_far
    split <;> omega
  intro n
  induction n with
  | zero =>
    intro k fu hk hf
    obtain ⟨fu, rfl⟩ : ∃ k, fu = k + 1 := ⟨fu - 1, by omega⟩
    rw [b_X8_isSeen_38, if_pos (nI_le (by omega) (by omega))]
    simp [sp_lp]
  | succ n ih =>
    intro k fu hk hf
    obtain ⟨fu, rfl⟩ : ∃ k, fu = k + 1 := ⟨fu - 1, by omega⟩
    have e1 : ¬ nI (sp_far a b) ≤ nI k := nI_ge (by omega) (by omega)
    have hp := sp_at_lt ha hb (k := k) (by omega)
    have e2 : bv_in (11 + nI (sp_at a b k)) 371 = true := in_lit (a := 11) (by omega) (by omega)
    have e3 : (11 + nI (sp_at a b k)).toNatClampNeg = 11 + sp_at a b k := c_lit 11 _ (by omega)
    have ihk := ih (k + 1) fu (by omega) (by omega)
    have main : b_X8_isSeen_61 m (b_X8_isSeen_38 m fu) (nI a) eye (nI b) (m 62 (11 + b) - eye) (nI (sp_far a b)) (nI k) (nI (sp_at a b k)) = some (if sp_lp (fun i => m 62 (11 + i)) (th8 m) a b eye (sp_far a b) (n + 1) k = true then 1 else 0) := by
      rw [b_X8_isSeen_61, ther8 hp]
      simp only [Option.bind_some]
      rw [show nI k + 1 = nI (k + 1) from nI_1 k, ihk, e2, e3, sp_lp]
      cases ht : th8 m (sp_at a b k) with
      | false => simp
      | true =>
        by_cases hq : (m 62 (11 + sp_at a b k) - eye) * nI (sp_far a b) < (m 62 (11 + b) - eye) * nI k
        · simp [hq]
        · simp [hq]
    rw [b_X8_isSeen_38, if_neg e1]
    by_cases hle : b ≤ a
    · have e : nI a - nI k = nI (sp_at a b k) := by
        unfold sp_at
        rw [if_neg (by omega)]
        unfold sp_far at hk
        rw [if_neg (by omega)] at hk
        exact pk_sub (by omega)
      rw [if_pos (nI_le hle (by omega)), e, main]
    · have e : nI a + nI k = nI (sp_at a b k) := by
        unfold sp_at
        rw [if_pos (by omega), nI_add]
      rw [if_neg (nI_ge (by omega) (by omega)), e, main]
theorem steps8 {a b : Nat} (ha : a < 1000) (hb : b < 1000) (m : bv_Mem) : f_X8_steps (nI a) (nI b) m = some (nI (sp_far a b)) := by
  unfold f_X8_steps sp_far
  by_cases hle : b ≤ a
  · rw [if_pos (nI_le hle (by omega)), if_neg (by omega), pk_sub hle]
  · rw [if_neg (nI_ge (by omega) (by omega)), if_pos (by omega), pk_sub (by omega)]
theorem see8 {m : bv_Mem} {a b : Nat} {hi : Int32} (ha : a < 20) (hb : b < 20) : f_X8_isSeen (nI a) hi (nI b) m = some (if sp_see (fun i => m 62 (11 + i)) (th8 m) a b hi = true then 1 else 0) := by
  unfold f_X8_isSeen sp_see
  by_cases hab : a = b
  · subst hab
    simp
  · have h1 : ¬ nI a = nI b := fun q => hab ((nI_eq (by omega) (by omega)).mp q)
    have hfar : 1 ≤ sp_far a b ∧ sp_far a b < 20 := by
      unfold sp_far
      split <;> omega
    have e2 : bv_in (11 + nI b) 371 = true := in_lit (a := 11) (by omega) (by omega)
    have e3 : (11 + nI b).toNatClampNeg = 11 + b := c_lit 11 _ (by omega)
    rw [if_neg h1, if_neg hab, ther8 hb, steps8 (by omega) (by omega), e2, e3]
    have hl := m8_lp (m := m) (eye := hi) ha hb (sp_far a b - 1) 1 400 (by omega) (by omega)
    have hl2 : b_X8_isSeen_38 m 400 (nI a) hi (nI b) (m 62 (11 + b) - hi) (nI (sp_far a b)) 1 = some (if sp_lp (fun i => m 62 (11 + i)) (th8 m) a b hi (sp_far a b) (sp_far a b - 1) 1 = true then 1 else 0) := hl
    cases ht : th8 m b with
    | false => simp
    | true => simp [hl2]
