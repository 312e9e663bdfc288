-- ===== class and reference, each in its own memory =====
abbrev bv_F : Type := bv_Mem → Option (Int32 × bv_Mem)
def bv_out (F7 F8 : bv_F) (c m : bv_Mem) : Prop := ∃ (r : Int32) (c' m' : bv_Mem), F7 c = some (r, c') ∧ F8 m = some (r, m') ∧ bv_J c' m' ∧ (∀ a, 61 ≤ a → c' a = c a) ∧ ∀ a, a < 61 → m' a = m a
theorem lock {F7 F8 : bv_F} (h : ∀ c m, bv_J c m → bv_out F7 F8 c m) (mi : bv_Mem) (hI : bv_I mi) : ∃ (r : Int32) (m1 m2 : bv_Mem), F7 mi = some (r, m1) ∧ F8 m1 = some (r, m2) ∧ bv_I m2 := by
  obtain ⟨r, c', m', h1, h2, h3, h4, h5⟩ := h mi mi hI
  have hJ : bv_J mi c' := bv_J.same (bt_s7.rf mi) (fun a k ha _ => by rw [h4 a ha]) hI
  obtain ⟨r2, c2, m2, g1, g2, g3, g4, g5⟩ := h mi c' hJ
  rw [h1] at g1
  have e := Option.some.inj g1
  have e1 : r = r2 := congrArg Prod.fst e
  have e2 : c' = c2 := congrArg Prod.snd e
  subst e1
  subst e2
  exact ⟨r, c', m2, h1, g2, g3.same (fun a k ha _ => by rw [g5 a ha]) (bt_s8.rf m2)⟩
theorem out_err {F7 F8 : bv_F} {c m : bv_Mem} (k : Nat) (r : Int32) (h : bv_J c m) (h7 : F7 c = some (r, er7 k c)) (h8 : F8 m = some (r, er8 k m)) : bv_out F7 F8 c m :=
  ⟨r, _, _, h7, h8, J_err k h, fun a ha => er7_row (by omega), fun a ha => er8_row (by omega)⟩
theorem out_ro {F7 F8 : bv_F} {c m : bv_Mem} (r : Int32) (h : bv_J c m) (h7 : F7 c = some (r, c)) (h8 : F8 m = some (r, m)) : bv_out F7 F8 c m :=
  ⟨r, c, m, h7, h8, h, fun _ _ => rfl, fun _ _ => rfl⟩
theorem out_up {F7 F8 : bv_F} {c m : bv_Mem} {a s k : Nat} {v : Int32} (r : Int32) (b : Nat) (hc : bt_cor a s k b) (ho : bt_ok a s v) (h : bv_J c m) (h7 : F7 c = some (r, bv_up c a s v)) (h8 : F8 m = some (r, bv_up m 62 k v)) : bv_out F7 F8 c m := by
  have q := hc
  unfold bt_cor at q
  exact ⟨r, _, _, h7, h8, J_up b hc ho h, fun x hx => bv_up_row (by omega), fun x hx => bv_up_row (by omega)⟩
section J
variable {c m : bv_Mem} (h : bv_J c m)
theorem RJ_h {i : Nat} (h : bv_J c m) (hi : i < 20) : m 62 (11 + i) = c 3 i := h.1.2.2.2.1 i hi
theorem RJ_g {i : Nat} (h : bv_J c m) (hi : i < 20) : m 62 (31 + i) = c 4 i := h.1.2.2.2.2.1 i hi
theorem RJ_at {i : Nat} (h : bv_J c m) (hi : i < 5) : m 62 (6 + i) = c 5 i := h.1.2.2.1 i hi
theorem RJ_b {b k : Nat} (h : bv_J c m) (hb : b < 8) (hk : k < 6) : m 62 (51 + 6 * b + k) = c (14 + b) k := h.1.2.2.2.2.2.1 b hb k hk
theorem RJ_tape {i : Nat} (h : bv_J c m) (hi : i < 50) : m 62 (99 + i) = c 8 i &&& 255 := h.1.2.2.2.2.2.2.1 i hi
theorem RJ_wait {i : Nat} (h : bv_J c m) (hi : i < 20) : m 62 (149 + i) = c 13 i := h.1.2.2.2.2.2.2.2.1 i hi
theorem RJ_day (h : bv_J c m) : m 62 0 = c 1 5 := h.1.2.1.1
theorem RJ_z (h : bv_J c m) : m 62 1 = c 1 6 := h.1.2.1.2.1
theorem RJ_v (h : bv_J c m) : m 62 2 = c 1 2 := h.1.2.1.2.2.1
theorem RJ_f (h : bv_J c m) : m 62 3 = c 1 4 := h.1.2.1.2.2.2.1
theorem RJ_t (h : bv_J c m) : m 62 4 = c 7 1 := h.1.2.1.2.2.2.2.1
theorem RJ_w (h : bv_J c m) : m 62 5 = c 1 11 := h.1.2.1.2.2.2.2.2
theorem WJ_vil (h : bv_J c m) : ∃ v, v ≤ 5 ∧ c 1 2 = nI v := h.1.1.1.1
theorem WJ_fil (h : bv_J c m) : ∃ v, v ≤ 8 ∧ c 1 4 = nI v := h.1.1.1.2.1
theorem WJ_day (h : bv_J c m) : ∃ v, v ≤ 9999 ∧ c 1 5 = nI v := h.1.1.1.2.2.1
theorem WJ_tap (h : bv_J c m) : ∃ v, v ≤ 50 ∧ c 7 1 = nI v := h.1.1.1.2.2.2.1
theorem WJ_wai (h : bv_J c m) : ∃ v, v ≤ 20 ∧ c 1 11 = nI v := h.1.1.1.2.2.2.2
theorem WJ_home {i : Nat} (h : bv_J c m) (hi : i < 5) : ∃ v, v < 20 ∧ c 5 i = nI v := h.1.1.2.1 i hi
theorem WJ_h {i : Nat} (h : bv_J c m) (hi : i < 20) : ∃ v, v ≤ 20 ∧ c 3 i = nI v := h.1.1.2.2.1 i hi
theorem WJ_g {i : Nat} (h : bv_J c m) (hi : i < 20) : ∃ v, v ≤ 99 ∧ c 4 i = nI v := h.1.1.2.2.2.1 i hi
theorem WJ_b {b : Nat} (h : bv_J c m) (hb : b < 8) : (∃ v, v < 7 ∧ c (14 + b) 0 = nI v) ∧ (∃ v, v < 10 ∧ c (14 + b) 1 = nI v) ∧ (∃ v, v < 20 ∧ c (14 + b) 2 = nI v) ∧ (∃ v, v < 1048576 ∧ c (14 + b) 3 = nI v) ∧ (∃ v, v ≤ 99 ∧ c (14 + b) 4 = nI v) ∧ (∃ v, v ≤ 1 ∧ c (14 + b) 5 = nI v) := h.1.1.2.2.2.2.1 b hb
end J
/-- a stretch of a row, each slot by a law -/
def bv_set (mi : bv_Mem) (a : Nat) (f : Nat → Int32) (lo hi : Nat) : bv_Mem := fun a' k' => if a' = a ∧ lo ≤ k' ∧ k' < hi then f k' else mi a' k'
theorem bv_set_nil {mi : bv_Mem} {a lo hi : Nat} {f : Nat → Int32} (h : hi ≤ lo) : bv_set mi a f lo hi = mi := by
  funext a' k'
  unfold bv_set
  rw [if_neg (by omega)]
theorem bv_set_up {mi : bv_Mem} {a lo hi : Nat} {f : Nat → Int32} (h : lo < hi) : bv_set (bv_up mi a lo (f lo)) a f (lo + 1) hi = bv_set mi a f lo hi := by
  funext a' k'
  unfold bv_set bv_up
  by_cases h1 : a' = a ∧ lo + 1 ≤ k' ∧ k' < hi
  · rw [if_pos h1, if_pos (by omega)]
  · rw [if_neg h1]
    by_cases h2 : a' = a ∧ k' = lo
    · rw [if_pos h2, if_pos (by omega), h2.2]
    · rw [if_neg h2, if_neg (by omega)]
theorem bv_set_row {mi : bv_Mem} {a lo hi j : Nat} {f : Nat → Int32} (h : j ≠ a) : bv_set mi a f lo hi j = mi j := by
  funext k
  unfold bv_set
  rw [if_neg (fun q => h q.1)]
theorem bv_set_in {mi : bv_Mem} {a lo hi k : Nat} {f : Nat → Int32} (h : lo ≤ k ∧ k < hi) : bv_set mi a f lo hi a k = f k := by
  unfold bv_set
  rw [if_pos ⟨rfl, h⟩]
theorem bv_set_out {mi : bv_Mem} {a lo hi a' k : Nat} {f : Nat → Int32} (h : a' ≠ a ∨ k < lo ∨ hi ≤ k) : bv_set mi a f lo hi a' k = mi a' k := by
  unfold bv_set
  rw [if_neg (by omega)]
theorem sh_rf : ∀ s, s < 4 → bv_RF 49 s = some (53 + 2 * s) ∧ bv_isC 74 (53 + 2 * s) 3 = true ∧ bv_RF (53 + 2 * s) 2 = some (54 + 2 * s) ∧ bv_isA 74 (54 + 2 * s) 0 40 = true ∧ bv_len (54 + 2 * s) = 40 := by decide
theorem bo_rf : ∀ b, b < 8 → bv_RF 6 b = some (14 + b) ∧ bv_isC 74 (14 + b) 0 = true := by decide
theorem J_S {c m c' m' : bv_Mem} (h : bv_J c m) (h7 : ∀ a, a < 53 ∨ 61 ≤ a → c' a = c a) (h8 : ∀ a, a < 71 → m' a = m a) (hS : bt_S c' m') : bv_J c' m' := by
  obtain ⟨⟨h1, h2⟩, h3, h5, h6, h9⟩ := h
  exact ⟨⟨h1.cg (fun a g1 g2 => h7 a (by omega)), h2.cg (fun a g1 g2 => h7 a (by omega)) (h8 62 (by omega))⟩, h3.cg (by rw [h7 0 (by omega)]) (by rw [h8 61 (by omega)]) (fun a g1 g2 => h7 a (by omega)) (h8 63 (by omega)), h5.cg (h7 50 (by omega)) (h8 65 (by omega)), hS, h9.cg (by rw [h7 47 (by omega)]) (by rw [h8 61 (by omega)]) (h7 48 (by omega)) (h8 70 (by omega))⟩
theorem lt4 {a b c : Nat} : nI a * nI b + nI c = nI (a * b + c) := by rw [pk_mul, nI_add]
theorem sw7 {s : Nat} (hs : s < 4) : ∀ (n i fu : Nat) (mi : bv_Mem), i + n = 40 → n < fu → b_X3_startWith_20 fu (53 + 2 * s) (nI i) mi = some (bv_set mi (54 + 2 * s) (fun _ => 0) i 40) := by
  obtain ⟨h1, h2, h3, h4, h5⟩ := sh_rf s hs
  intro n
  induction n with
  | zero =>
    intro i fu mi hi hf
    obtain ⟨fu, rfl⟩ : ∃ k, fu = k + 1 := ⟨fu - 1, by omega⟩
    have e : i = 40 := by omega
    subst e
    rw [b_X3_startWith_20, if_pos (by decide), bv_set_nil (Nat.le_refl _)]
  | succ n ih =>
    intro i fu mi hi hf
    obtain ⟨fu, rfl⟩ : ∃ k, fu = k + 1 := ⟨fu - 1, by omega⟩
    have e1 : ¬ (40 : Int32) ≤ nI i := nI_ge (b := 40) (by omega) (by omega)
    have e2 : bv_in (nI i) 40 = true := nb_in (by omega) (by omega)
    rw [b_X3_startWith_20, if_neg e1, if_pos h2, h3]
    simp only [Option.bind_some, h5, h4, e2, if_true, nI_clamp (n := i) (by omega)]
    rw [show nI i + 1 = nI (i + 1) from nI_1 i, ih (i + 1) fu _ (by omega) (by omega)]
    have := bv_set_up (mi := mi) (a := 54 + 2 * s) (lo := i) (hi := 40) (f := fun _ => 0) (by omega)
    exact congrArg some this
theorem sw8 {s : Nat} (hs : s < 4) : ∀ (n i fu : Nat) (mi : bv_Mem), i + n = 40 → n < fu → b_X8_sheet_93 fu (nI s) (nI i) mi = some (1, bv_set mi 73 (fun _ => 0) (40 * s + i) (40 * s + 40)) := by
  intro n
  induction n with
  | zero =>
    intro i fu mi hi hf
    obtain ⟨fu, rfl⟩ : ∃ k, fu = k + 1 := ⟨fu - 1, by omega⟩
    have e : i = 40 := by omega
    subst e
    rw [b_X8_sheet_93, if_pos (by decide), bv_set_nil (Nat.le_refl _)]
  | succ n ih =>
    intro i fu mi hi hf
    obtain ⟨fu, rfl⟩ : ∃ k, fu = k + 1 := ⟨fu - 1, by omega⟩
    have e1 : ¬ (40 : Int32) ≤ nI i := nI_ge (b := 40) (by omega) (by omega)
    have e3 : (40 : Int32) * nI s + nI i = nI (40 * s + i) := lt4 (a := 40)
    have e2 : bv_in (nI (40 * s + i)) 160 = true := nb_in (by omega) (by omega)
    rw [b_X8_sheet_93, if_neg e1, e3, if_pos e2, nI_clamp (by omega), show nI i + 1 = nI (i + 1) from nI_1 i, ih (i + 1) fu _ (by omega) (by omega)]
    have := bv_set_up (mi := mi) (a := 73) (lo := 40 * s + i) (hi := 40 * s + 40) (f := fun _ => 0) (by omega)
    exact congrArg (fun x => some (1, x)) this
set_option maxHeartbeats 4000000 in
theorem S_sheet : bv_S_sheet bv_I := by
  intro p w n mi hI
  refine lock (F7 := f_X7_sheet p w n) (F8 := f_X8_sheet p w n) ?_ mi hI
  intro c m h
  by_cases hp : 0 ≤ p ∧ p ≤ 3
  · obtain ⟨s, hs, rfl⟩ := n_of hp (n := 3) rfl
    obtain ⟨h1, h2, h3, h4, h5⟩ := sh_rf s (by omega)
    have e1 : bv_in (nI s) 4 = true := nb_in (by omega) (by omega)
    have e2 : (nI s).toNatClampNeg = s := nI_clamp (by omega)
    have main : ∀ (b0 : w = 0 ∨ w = 8 ∨ w = 16 ∨ w = 32) (u : Nat) (hu : u ≤ 40) (hn : w = 0 → u = 0), f_X7_sheet (nI s) w n c = some (1, bv_set (bv_up (bv_up c (53 + 2 * s) 0 w) (53 + 2 * s) 1 (nI u)) (54 + 2 * s) (fun _ => 0) 0 40) → f_X8_sheet (nI s) w n m = some (1, bv_set (bv_up (bv_up m 71 s w) 72 s (nI u)) 73 (fun _ => 0) (40 * s + 0) (40 * s + 40)) → bv_out (f_X7_sheet (nI s) w n) (f_X8_sheet (nI s) w n) c m := by
      intro b0 u hu hn g7 g8
      refine ⟨1, _, _, g7, g8, J_S h ?_ ?_ ?_, ?_, ?_⟩
      · intro a ha
        rw [bv_set_row (by omega), bv_up_row (by omega), bv_up_row (by omega)]
      · intro a ha
        rw [bv_set_row (by omega), bv_up_row (by omega), bv_up_row (by omega)]
      · intro t ht
        obtain ⟨k1, k2, k3, k4, k5⟩ := h.2.2.2.1 t ht
        by_cases hts : t = s
        · subst hts
          refine ⟨?_, ?_, ?_, ⟨u, hu, ?_⟩, fun i hi => Or.inl ?_⟩
          · rw [bv_set_row (by omega), bv_up_row (by omega), bv_up_eq, bv_set_row (by omega), bv_up_nn (by omega), bv_up_eq]
          · rw [bv_set_row (by omega), bv_up_eq, bv_set_row (by omega), bv_up_eq]
          · rw [bv_set_row (by omega), bv_up_nn (by omega), bv_up_eq]
            exact b0
          · rw [bv_set_row (by omega), bv_up_eq]
          · rw [bv_set_in (by omega), bv_set_in (by omega)]
        · refine ⟨?_, ?_, ?_, ?_, fun i hi => ?_⟩
          · rw [bv_set_row (by omega), bv_up_row (by omega), bv_up_nn (by omega), bv_set_row (by omega), bv_up_row (by omega), bv_up_row (by omega)]
            exact k1
          · rw [bv_set_row (by omega), bv_up_nn (by omega), bv_up_row (by omega), bv_set_row (by omega), bv_up_row (by omega), bv_up_row (by omega)]
            exact k2
          · rw [bv_set_row (by omega), bv_up_row (by omega), bv_up_row (by omega)]
            exact k3
          · rw [bv_set_row (by omega), bv_up_row (by omega), bv_up_row (by omega)]
            exact k4
          · rw [bv_set_row (by omega), bv_up_row (by omega), bv_up_row (by omega), bv_set_out (by omega), bv_up_row (by omega), bv_up_row (by omega)]
            exact k5 i hi
      · intro a ha
        rw [bv_set_row (by omega), bv_up_row (by omega), bv_up_row (by omega)]
      · intro a ha
        rw [bv_set_row (by omega), bv_up_row (by omega), bv_up_row (by omega)]
    have a7 : ∀ mi, b_X3_startWith_20 400 (53 + 2 * s) 0 mi = some (bv_set mi (54 + 2 * s) (fun _ => 0) 0 40) := fun mi => sw7 (by omega) 40 0 400 mi (by omega) (by omega)
    have a8 : ∀ mi, b_X8_sheet_93 400 (nI s) 0 mi = some (1, bv_set mi 73 (fun _ => 0) (40 * s + 0) (40 * s + 40)) := fun mi => sw8 (by omega) 40 0 400 mi (by omega) (by omega)
    by_cases hw0 : w = 0
    · subst hw0
      refine main (Or.inl rfl) 0 (by omega) (fun _ => rfl) ?_ ?_
      · simp [f_X7_sheet, b_X7_sheet_35, b_X7_sheet_49, f_X3_startWith, sh7, hp, e1, e2, h1, h2, a7, nI_0]
      · simp [f_X8_sheet, b_X8_sheet_36, b_X8_sheet_51, b_X8_sheet_68, sh8, hp, e1, e2, a8, nI_0]
    · by_cases hw : w = 8 ∨ w = 16 ∨ w = 32
      · have hpos : ¬ w ≤ 0 := by rcases hw with rfl | rfl | rfl <;> decide
        have hin7 : f_X7_sheet (nI s) w n c = b_X7_sheet_35 (nI s) w n c := by
          rcases hw with rfl | rfl | rfl <;> simp [f_X7_sheet, sh7, hp]
        have hin8 : f_X8_sheet (nI s) w n m = b_X8_sheet_36 (nI s) w n m := by
          rcases hw with rfl | rfl | rfl <;> simp [f_X8_sheet, sh8, hp]
        by_cases hn : 0 ≤ n
        · by_cases hn2 : n ≤ 40
          · obtain ⟨u, hu, rfl⟩ := n_of ⟨hn, hn2⟩ (n := 40) rfl
            refine main (Or.inr hw) u hu (fun q => absurd q hw0) ?_ ?_
            · rw [hin7]
              simp [b_X7_sheet_35, b_X7_sheet_49, f_X3_startWith, hw0, hn, hn2, e1, e2, h1, h2, a7]
            · rw [hin8]
              simp [b_X8_sheet_36, b_X8_sheet_51, b_X8_sheet_68, hw0, hpos, hn, hn2, e1, e2, a8]
          · refine out_err 1 (-1000000001) h ?_ ?_
            · rw [hin7]
              simp [b_X7_sheet_35, b_X7_sheet_49, hw0, hn, hn2, x7_e1]
            · rw [hin8]
              simp [b_X8_sheet_36, b_X8_sheet_51, hpos, hn, hn2, x8_e1]
        · refine out_err 3 (-1000000003) h ?_ ?_
          · rw [hin7]
            simp [b_X7_sheet_35, hw0, hn, x7_e3]
          · rw [hin8]
            simp [b_X8_sheet_36, hpos, hn, x8_e3]
      · have g8 : ¬ w = 8 := fun q => hw (Or.inl q)
        have g16 : ¬ w = 16 := fun q => hw (Or.inr (Or.inl q))
        have g32 : ¬ w = 32 := fun q => hw (Or.inr (Or.inr q))
        refine out_err 1 (-1000000001) h ?_ ?_
        · simp [f_X7_sheet, sh7, hp, hw0, g8, g16, g32, x7_e1]
        · simp [f_X8_sheet, sh8, hp, hw0, g8, g16, g32, x8_e1]
  · refine out_err 1 (-1000000001) h ?_ ?_
    · simp [f_X7_sheet, sh7, hp, x7_e1]
    · simp [f_X8_sheet, sh8, hp, x8_e1]
