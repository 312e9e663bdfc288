-- ===== bottles: which one =====
theorem bo7t {c : bv_Mem} {f b : Nat} (hf : f ≤ 8) (ef : c 1 4 = nI f) (hb : b < f) : f_X7_isBottle (nI b) c = some 1 := by
  rw [bo7, ef, if_pos (n_in1 hb (by omega))]
theorem bo8t {c : bv_Mem} {f b : Nat} (hf : f ≤ 8) (ef : c 62 3 = nI f) (hb : b < f) : f_X8_isBottle (nI b) c = some 1 := by
  rw [bo8, ef, if_pos (n_in1 hb (by omega))]
theorem of8J {c m : bv_Mem} (h : bv_J c m) {b k : Nat} (hb : b < 8) (hk : k < 6) : f_X8_of (nI b) (nI k) m = some (c (14 + b) k) := by
  rw [of8 hb hk, RJ_b h hb hk]
theorem km_dm {K : Nat} (h : K ≤ 69) : nI K / 10 = nI (K / 10) ∧ nI K - nI K / 10 * 10 = nI (K % 10) := ⟨pk_div (d := 10) (by omega) (by omega) (by omega), pk_rem (d := 10) (by omega) (by omega) (by omega)⟩
theorem ok_b0 {b v : Nat} (hb : b < 8) (hv : v < 7) : bt_ok (14 + b) 0 (nI v) := ok_bot hb ⟨fun _ => ⟨v, hv, rfl⟩, fun q => absurd q (by decide), fun q => absurd q (by decide), fun q => absurd q (by decide), fun q => absurd q (by decide), fun q => absurd q (by decide)⟩
theorem ok_b1 {b v : Nat} (hb : b < 8) (hv : v < 10) : bt_ok (14 + b) 1 (nI v) := ok_bot hb ⟨fun q => absurd q (by decide), fun _ => ⟨v, hv, rfl⟩, fun q => absurd q (by decide), fun q => absurd q (by decide), fun q => absurd q (by decide), fun q => absurd q (by decide)⟩
theorem ok_b2 {b v : Nat} (hb : b < 8) (hv : v < 20) : bt_ok (14 + b) 2 (nI v) := ok_bot hb ⟨fun q => absurd q (by decide), fun q => absurd q (by decide), fun _ => ⟨v, hv, rfl⟩, fun q => absurd q (by decide), fun q => absurd q (by decide), fun q => absurd q (by decide)⟩
theorem ok_b3 {b v : Nat} (hb : b < 8) (hv : v < 1048576) : bt_ok (14 + b) 3 (nI v) := ok_bot hb ⟨fun q => absurd q (by decide), fun q => absurd q (by decide), fun q => absurd q (by decide), fun _ => ⟨v, hv, rfl⟩, fun q => absurd q (by decide), fun q => absurd q (by decide)⟩
theorem ok_b4 {b v : Nat} (hb : b < 8) (hv : v ≤ 99) : bt_ok (14 + b) 4 (nI v) := ok_bot hb ⟨fun q => absurd q (by decide), fun q => absurd q (by decide), fun q => absurd q (by decide), fun q => absurd q (by decide), fun _ => ⟨v, hv, rfl⟩, fun q => absurd q (by decide)⟩
theorem ok_b5 {b v : Nat} (hb : b < 8) (hv : v ≤ 1) : bt_ok (14 + b) 5 (nI v) := ok_bot hb ⟨fun q => absurd q (by decide), fun q => absurd q (by decide), fun q => absurd q (by decide), fun q => absurd q (by decide), fun q => absurd q (by decide), fun _ => ⟨v, hv, rfl⟩⟩
theorem cor_b {b k : Nat} (hb : b < 8) (hk : k < 6) : bt_cor (14 + b) k (51 + 6 * b + k) b := by
  unfold bt_cor
  omega
theorem lay8u {b k : Nat} {m : bv_Mem} {v : Int32} (hb : b < 8) (hk : k < 6) : f_X8_lay (nI b) (nI k) v m = some (bv_up m 62 (51 + 6 * b + k) v) := lay8 hb hk m
theorem S_become : bv_S_become bv_I := by
  intro p q mi hI
  refine lock (F7 := f_X7_become p q) (F8 := f_X8_become p q) ?_ mi hI
  intro c m h
  obtain ⟨f, hf, ef⟩ := WJ_fil h
  have ef8 : m 62 3 = nI f := (RJ_f h).trans ef
  by_cases hp : 0 ≤ p ∧ p ≤ nI f - 1
  · obtain ⟨b, hb, rfl⟩ := n_of1 hp (by omega)
    obtain ⟨r1, r2⟩ := bo_rf b (by omega)
    by_cases hq : 0 ≤ q ∧ q ≤ 69
    · obtain ⟨K, hK, rfl⟩ := n_of hq (n := 69) rfl
      have k7 : f_X7_isKindWithNumber (nI K) c = some 1 := by rw [km7, if_pos hq]
      have k8 : f_X8_isKm (nI K) m = some 1 := by rw [km8, if_pos hq]
      obtain ⟨d1, d2⟩ := km_dm hK
      have t7 : f_X0_turnInto (14 + b) (nI K) c = some (bv_up (bv_up c (14 + b) 0 (nI (K / 10))) (14 + b) 1 (nI (K % 10))) := by
        unfold f_X0_turnInto
        rw [if_pos r2, d2, d1]
      have l8 : f_X8_lay (nI b) 1 (nI (K % 10)) m = some (bv_up m 62 (51 + 6 * b + 1) (nI (K % 10))) := lay8 (k := 1) (by omega) (by omega) m
      have b8 : f_X8_becomes (51 + 6 * nI b) (nI (K / 10)) (bv_up m 62 (51 + 6 * b + 1) (nI (K % 10))) = some (c (14 + b) 0, bv_up (bv_up m 62 (51 + 6 * b + 1) (nI (K % 10))) 62 (51 + 6 * b + 0) (nI (K / 10))) := by
        have e : (51 : Int32) + 6 * nI b = nI (51 + 6 * b) := by
          rw [show (51 : Int32) = nI 51 from rfl, show (6 : Int32) = nI 6 from rfl, pk_mul, nI_add]
        unfold f_X8_becomes
        rw [e, if_pos (nb_in (by omega) (by omega)), nI_clamp (by omega), bv_up_nn (by omega)]
        have := RJ_b h (b := b) (k := 0) (by omega) (by omega)
        rw [Nat.add_zero] at this
        rw [this]
        rfl
      have j1 : bv_J (bv_up c (14 + b) 1 (nI (K % 10))) (bv_up m 62 (51 + 6 * b + 1) (nI (K % 10))) := J_up b (cor_b (by omega) (by omega)) (ok_b1 (by omega) (by omega)) h
      have j2 : bv_J (bv_up (bv_up c (14 + b) 1 (nI (K % 10))) (14 + b) 0 (nI (K / 10))) (bv_up (bv_up m 62 (51 + 6 * b + 1) (nI (K % 10))) 62 (51 + 6 * b + 0) (nI (K / 10))) := J_up b (cor_b (by omega) (by omega)) (ok_b0 (by omega) (by omega)) j1
      have sw : bv_up (bv_up c (14 + b) 0 (nI (K / 10))) (14 + b) 1 (nI (K % 10)) = bv_up (bv_up c (14 + b) 1 (nI (K % 10))) (14 + b) 0 (nI (K / 10)) := by
        funext x k
        unfold bv_up
        by_cases h1 : x = 14 + b ∧ k = 1
        · rw [if_pos h1, if_neg (by omega), if_pos h1]
        · rw [if_neg h1, if_neg h1]
      refine ⟨c (14 + b) 0, _, _, ?_, ?_, j2, ?_, ?_⟩
      · unfold f_X7_become
        rw [bd1 (bo7t hf ef hb), if_neg (by decide), bd1 k7, if_neg (by decide), if_pos (nb_in (by omega) (by omega)), nI_clamp (by omega), bd1 r1, if_pos r2, bd1 r1, if_pos r2, bd1 t7, sw]
      · unfold f_X8_become
        rw [bd1 (bo8t hf ef8 hb), if_neg (by decide), bd1 k8, if_neg (by decide), d2, d1, bd1 l8, bd1 b8]
      · intro a ha
        rw [bv_up_row (by omega), bv_up_row (by omega)]
      · intro a ha
        rw [bv_up_row (by omega), bv_up_row (by omega)]
    · have k7 : f_X7_isKindWithNumber q c = some 0 := by rw [km7, if_neg hq]
      have k8 : f_X8_isKm q m = some 0 := by rw [km8, if_neg hq]
      refine out_err 1 (-1000000001) h ?_ ?_
      · unfold f_X7_become
        rw [bd1 (bo7t hf ef hb), if_neg (by decide), bd1 k7, if_pos rfl, bd1 (x7_e1 c)]
      · unfold f_X8_become
        rw [bd1 (bo8t hf ef8 hb), if_neg (by decide), bd1 k8, if_pos rfl, bd1 (x8_e1 m)]
  · have p7 : f_X7_isBottle p c = some 0 := by rw [bo7, ef, if_neg hp]
    have p8 : f_X8_isBottle p m = some 0 := by rw [bo8, ef8, if_neg hp]
    refine out_err 1 (-1000000001) h ?_ ?_
    · unfold f_X7_become
      rw [bd1 p7, if_pos rfl, bd1 (x7_e1 c)]
    · unfold f_X8_become
      rw [bd1 p8, if_pos rfl, bd1 (x8_e1 m)]
-- ===== as =====
theorem und (c m : bv_Mem) : ∀ k, k < 7 → ∀ q, q ≤ 6 → b_X0_isOfKind_7 c 4 (nI q) (nI k) 0 = f_X8_isUnder (nI k) (nI q) m ∧ (f_X8_isUnder (nI k) (nI q) m = some 0 ∨ f_X8_isUnder (nI k) (nI q) m = some 1) := by
  intro k hk q hq
  match k, hk with
  | 0, _ => match q, hq with
    | 0, _ => exact ⟨rfl, Or.inr rfl⟩
    | 1, _ => exact ⟨rfl, Or.inl rfl⟩
    | 2, _ => exact ⟨rfl, Or.inl rfl⟩
    | 3, _ => exact ⟨rfl, Or.inl rfl⟩
    | 4, _ => exact ⟨rfl, Or.inl rfl⟩
    | 5, _ => exact ⟨rfl, Or.inl rfl⟩
    | 6, _ => exact ⟨rfl, Or.inl rfl⟩
  | 1, _ => match q, hq with
    | 0, _ => exact ⟨rfl, Or.inr rfl⟩
    | 1, _ => exact ⟨rfl, Or.inr rfl⟩
    | 2, _ => exact ⟨rfl, Or.inl rfl⟩
    | 3, _ => exact ⟨rfl, Or.inl rfl⟩
    | 4, _ => exact ⟨rfl, Or.inl rfl⟩
    | 5, _ => exact ⟨rfl, Or.inl rfl⟩
    | 6, _ => exact ⟨rfl, Or.inl rfl⟩
  | 2, _ => match q, hq with
    | 0, _ => exact ⟨rfl, Or.inr rfl⟩
    | 1, _ => exact ⟨rfl, Or.inl rfl⟩
    | 2, _ => exact ⟨rfl, Or.inr rfl⟩
    | 3, _ => exact ⟨rfl, Or.inl rfl⟩
    | 4, _ => exact ⟨rfl, Or.inl rfl⟩
    | 5, _ => exact ⟨rfl, Or.inl rfl⟩
    | 6, _ => exact ⟨rfl, Or.inl rfl⟩
  | 3, _ => match q, hq with
    | 0, _ => exact ⟨rfl, Or.inr rfl⟩
    | 1, _ => exact ⟨rfl, Or.inl rfl⟩
    | 2, _ => exact ⟨rfl, Or.inl rfl⟩
    | 3, _ => exact ⟨rfl, Or.inr rfl⟩
    | 4, _ => exact ⟨rfl, Or.inl rfl⟩
    | 5, _ => exact ⟨rfl, Or.inl rfl⟩
    | 6, _ => exact ⟨rfl, Or.inl rfl⟩
  | 4, _ => match q, hq with
    | 0, _ => exact ⟨rfl, Or.inr rfl⟩
    | 1, _ => exact ⟨rfl, Or.inr rfl⟩
    | 2, _ => exact ⟨rfl, Or.inl rfl⟩
    | 3, _ => exact ⟨rfl, Or.inl rfl⟩
    | 4, _ => exact ⟨rfl, Or.inr rfl⟩
    | 5, _ => exact ⟨rfl, Or.inl rfl⟩
    | 6, _ => exact ⟨rfl, Or.inl rfl⟩
  | 5, _ => match q, hq with
    | 0, _ => exact ⟨rfl, Or.inr rfl⟩
    | 1, _ => exact ⟨rfl, Or.inl rfl⟩
    | 2, _ => exact ⟨rfl, Or.inr rfl⟩
    | 3, _ => exact ⟨rfl, Or.inl rfl⟩
    | 4, _ => exact ⟨rfl, Or.inl rfl⟩
    | 5, _ => exact ⟨rfl, Or.inr rfl⟩
    | 6, _ => exact ⟨rfl, Or.inl rfl⟩
  | 6, _ => match q, hq with
    | 0, _ => exact ⟨rfl, Or.inr rfl⟩
    | 1, _ => exact ⟨rfl, Or.inl rfl⟩
    | 2, _ => exact ⟨rfl, Or.inl rfl⟩
    | 3, _ => exact ⟨rfl, Or.inr rfl⟩
    | 4, _ => exact ⟨rfl, Or.inl rfl⟩
    | 5, _ => exact ⟨rfl, Or.inl rfl⟩
    | 6, _ => exact ⟨rfl, Or.inr rfl⟩
theorem kd_fu {c : bv_Mem} {q k i r : Int32} : ∀ (n d : Nat), b_X0_isOfKind_7 c n q k i = some r → b_X0_isOfKind_7 c (n + d) q k i = some r := by
  intro n
  induction n generalizing k i with
  | zero => intro d h; cases h
  | succ n ih =>
    intro d h
    rw [show n + 1 + d = (n + d) + 1 from by omega]
    rw [b_X0_isOfKind_7] at h ⊢
    by_cases h1 : (3 : Int32) ≤ i
    · rw [if_pos h1] at h ⊢; exact h
    · rw [if_neg h1] at h ⊢
      by_cases h2 : k = q
      · rw [if_pos h2] at h ⊢; exact h
      · rw [if_neg h2] at h ⊢
        by_cases h3 : bv_in k 7 = true
        · rw [if_pos h3] at h ⊢; exact ih d h
        · rw [if_neg h3] at h; cases h
theorem S_as : bv_S_as bv_I := by
  intro p q mi hI
  refine lock (F7 := f_X7_as p q) (F8 := f_X8_as p q) ?_ mi hI
  intro c m h
  obtain ⟨f, hf, ef⟩ := WJ_fil h
  have ef8 : m 62 3 = nI f := (RJ_f h).trans ef
  by_cases hp : 0 ≤ p ∧ p ≤ nI f - 1
  · obtain ⟨b, hb, rfl⟩ := n_of1 hp (by omega)
    obtain ⟨r1, r2⟩ := bo_rf b (by omega)
    by_cases hq : 0 ≤ q ∧ q ≤ 6
    · obtain ⟨Q, hQ, rfl⟩ := n_of hq (n := 6) rfl
      have k7 : f_X7_isWithin (nI Q) 0 6 c = some 1 := by rw [win7, if_pos hq]
      have k8 : f_X8_in (nI Q) 0 6 m = some 1 := by rw [win8, if_pos hq]
      obtain ⟨k, hk, ek⟩ := (WJ_b h (b := b) (by omega)).1
      have o0 : f_X8_of (nI b) 0 m = some (nI k) := by rw [← ek]; exact of8J (k := 0) h (by omega) (by omega)
      have o1 : f_X8_of (nI b) 1 m = some (c (14 + b) 1) := of8J (k := 1) h (by omega) (by omega)
      obtain ⟨u1, u2⟩ := und c m k hk Q hQ
      have t7 : ∀ r, f_X8_isUnder (nI k) (nI Q) m = some r → f_X0_isOfKind (14 + b) (nI Q) c = some r := by
        intro r hr
        unfold f_X0_isOfKind
        rw [if_pos r2, ek]
        exact kd_fu 4 396 (u1.trans hr)
      rcases u2 with u2 | u2
      · refine out_err 5 (-1000000005) h ?_ ?_
        · unfold f_X7_as
          rw [bd1 (bo7t hf ef hb), if_neg (by decide), bd1 k7, if_neg (by decide), if_pos (nb_in (by omega) (by omega)), nI_clamp (by omega), bd1 r1, if_pos r2, bd1 (t7 0 u2), if_pos rfl, bd1 (x7_e5 c)]
        · unfold f_X8_as
          rw [bd1 (bo8t hf ef8 hb), if_neg (by decide), bd1 k8, if_neg (by decide), bd1 o0, bd1 u2, if_pos rfl, bd1 (x8_e5 m)]
      · refine out_ro (c (14 + b) 1) h ?_ ?_
        · unfold f_X7_as
          rw [bd1 (bo7t hf ef hb), if_neg (by decide), bd1 k7, if_neg (by decide), if_pos (nb_in (by omega) (by omega)), nI_clamp (by omega), bd1 r1, if_pos r2, bd1 (t7 1 u2), if_neg (by decide), bd1 r1, if_pos r2]
        · unfold f_X8_as
          rw [bd1 (bo8t hf ef8 hb), if_neg (by decide), bd1 k8, if_neg (by decide), bd1 o0, bd1 u2, if_neg (by decide), bd1 o1]
    · have k7 : f_X7_isWithin q 0 6 c = some 0 := by rw [win7, if_neg hq]
      have k8 : f_X8_in q 0 6 m = some 0 := by rw [win8, if_neg hq]
      refine out_err 1 (-1000000001) h ?_ ?_
      · unfold f_X7_as
        rw [bd1 (bo7t hf ef hb), if_neg (by decide), bd1 k7, if_pos rfl, bd1 (x7_e1 c)]
      · unfold f_X8_as
        rw [bd1 (bo8t hf ef8 hb), if_neg (by decide), bd1 k8, if_pos rfl, bd1 (x8_e1 m)]
  · have p7 : f_X7_isBottle p c = some 0 := by rw [bo7, ef, if_neg hp]
    have p8 : f_X8_isBottle p m = some 0 := by rw [bo8, ef8, if_neg hp]
    refine out_err 1 (-1000000001) h ?_ ?_
    · unfold f_X7_as
      rw [bd1 p7, if_pos rfl, bd1 (x7_e1 c)]
    · unfold f_X8_as
      rw [bd1 p8, if_pos rfl, bd1 (x8_e1 m)]
-- ===== what is left =====
def sp_fr (fr : Nat) (lo hi : Int32) (p : Nat) : Bool := decide (lo ≤ nI (sp_far fr p) ∧ nI (sp_far fr p) ≤ hi)
theorem hb7_lp {c : bv_Mem} {b fr : Nat} {lo hi : Int32} (hb : b < 8) (hfr : fr < 20) (ef : c (14 + b) 2 = nI fr) : ∀ (n i X fu : Nat), i + n = 20 → n < fu → b_X0_heldBetween_5 c fu (14 + b) lo hi (nI X) (nI i) = some (nI (sp_mk (sp_fr fr lo hi) n i X) &&& c (14 + b) 3) := by
  obtain ⟨r1, r2⟩ := bo_rf b hb
  intro n
  induction n with
  | zero =>
    intro i X fu hj hf
    obtain ⟨fu, rfl⟩ : ∃ k, fu = k + 1 := ⟨fu - 1, by omega⟩
    have e : i = 20 := by omega
    subst e
    rw [b_X0_heldBetween_5, if_pos (by decide), if_pos r2, sp_mk]
  | succ n ih =>
    intro i X fu hj hf
    obtain ⟨fu, rfl⟩ : ∃ k, fu = k + 1 := ⟨fu - 1, by omega⟩
    have e1 : ¬ (20 : Int32) ≤ nI i := nI_ge (b := 20) (by omega) (by omega)
    rw [b_X0_heldBetween_5, if_neg e1, if_pos r2, ef, abs_far hfr (by omega), bd1 (win7 _ _ _ _), b_one (by omega), nI_or, show nI i + 1 = nI (i + 1) from nI_1 i, sp_mk]
    unfold sp_fr
    by_cases hq : lo ≤ nI (sp_far fr i) ∧ nI (sp_far fr i) ≤ hi
    · rw [if_pos hq, if_neg (by decide), ih (i + 1) _ fu (by omega) (by omega), decide_eq_true hq, if_pos rfl]
      rfl
    · rw [if_neg hq, if_pos rfl, ih (i + 1) _ fu (by omega) (by omega), decide_eq_false hq, if_neg (by decide)]
      rfl
theorem bt8_lp {c m : bv_Mem} {b fr H : Nat} {lo hi : Int32} (h : bv_J c m) (hb : b < 8) (hfr : fr < 20) (hH : H < 2 ^ 20) (ef : c (14 + b) 2 = nI fr) (eh : c (14 + b) 3 = nI H) : ∀ (n i X fu : Nat), i + n = 20 → n < fu → b_X8_between_6 m fu (nI b) lo hi (nI X) (nI i) = some (nI (sp_mk (fun p => H.testBit p && sp_fr fr lo hi p) n i X)) := by
  have o3 : f_X8_of (nI b) 3 m = some (nI H) := by rw [← eh]; exact of8J (k := 3) h hb (by omega)
  have o2 : f_X8_of (nI b) 2 m = some (nI fr) := by rw [← ef]; exact of8J (k := 2) h hb (by omega)
  intro n
  induction n with
  | zero =>
    intro i X fu hj hf
    obtain ⟨fu, rfl⟩ : ∃ k, fu = k + 1 := ⟨fu - 1, by omega⟩
    have e : i = 20 := by omega
    subst e
    rw [b_X8_between_6, if_pos (by decide), sp_mk]
  | succ n ih =>
    intro i X fu hj hf
    obtain ⟨fu, rfl⟩ : ∃ k, fu = k + 1 := ⟨fu - 1, by omega⟩
    have e1 : ¬ (20 : Int32) ≤ nI i := nI_ge (b := 20) (by omega) (by omega)
    have hb2 := b_o (X := H) (j := i) (by omega) (by omega)
    rw [b_X8_between_6, if_neg e1, bd1 o3, bd1 o2, bd1 (steps8 (by omega) (by omega) m), bd1 (win8 _ _ _ _), b_one (by omega), nI_or, Int32.or_zero, show nI i + 1 = nI (i + 1) from nI_1 i, sp_mk]
    cases ht : H.testBit i with
    | false =>
      rw [if_neg (fun q => by rw [hb2.mp q] at ht; cases ht), ih (i + 1) _ fu (by omega) (by omega)]
      rfl
    | true =>
      rw [if_pos (hb2.mpr ht), Bool.true_and]
      unfold sp_fr
      by_cases hq : lo ≤ nI (sp_far fr i) ∧ nI (sp_far fr i) ≤ hi
      · rw [if_pos hq, if_neg (by decide), ih (i + 1) _ fu (by omega) (by omega), decide_eq_true hq, if_pos rfl]
        rfl
      · rw [if_neg hq, if_pos rfl, ih (i + 1) _ fu (by omega) (by omega), decide_eq_false hq, if_neg (by decide)]
        rfl
theorem held_eq {H fr : Nat} {lo hi : Int32} (hH : H < 2 ^ 20) : sp_mk (sp_fr fr lo hi) 20 0 0 &&& H = sp_mk (fun p => H.testBit p && sp_fr fr lo hi p) 20 0 0 := by
  apply Nat.eq_of_testBit_eq
  intro j
  rw [Nat.testBit_and, sp_mk_bit, sp_mk_bit, Nat.zero_testBit, Bool.false_or, Bool.false_or]
  cases sp_fr fr lo hi j <;> cases H.testBit j <;> simp
theorem left_J {c m : bv_Mem} (h : bv_J c m) {b : Nat} (hb : b < 8) : ∃ L, L < 2 ^ 20 ∧ f_X0_left (14 + b) c = some (nI L) ∧ f_X8_leftIn (nI b) m = some (nI L) := by
  obtain ⟨r1, r2⟩ := bo_rf b hb
  obtain ⟨⟨k, hk, ek⟩, ⟨mm, hmm, em⟩, ⟨fr, hfr, efr⟩, ⟨H, hH, eH⟩, ⟨g, hg, eg⟩, ⟨o, ho, eo⟩⟩ := WJ_b h hb
  have hH' : H < 2 ^ 20 := by omega
  have o0 : f_X8_of (nI b) 0 m = some (nI k) := by rw [← ek]; exact of8J (k := 0) h hb (by omega)
  have o1 : f_X8_of (nI b) 1 m = some (nI mm) := by rw [← em]; exact of8J (k := 1) h hb (by omega)
  have o3 : f_X8_of (nI b) 3 m = some (nI H) := by rw [← eH]; exact of8J (k := 3) h hb (by omega)
  have o4 : f_X8_of (nI b) 4 m = some (nI g) := by rw [← eg]; exact of8J (k := 4) h hb (by omega)
  have o5 : f_X8_of (nI b) 5 m = some (nI o) := by rw [← eo]; exact of8J (k := 5) h hb (by omega)
  have h7 : ∀ lo hi : Int32, f_X0_heldBetween (14 + b) lo hi c = some (nI (sp_mk (fun p => H.testBit p && sp_fr fr lo hi p) 20 0 0)) := by
    intro lo hi
    have := hb7_lp (lo := lo) (hi := hi) hb hfr efr 20 0 0 400 (by omega) (by omega)
    rw [eH, nI_and, held_eq hH'] at this
    exact this
  have h8 : ∀ lo hi : Int32, f_X8_between (nI b) lo hi m = some (nI (sp_mk (fun p => H.testBit p && sp_fr fr lo hi p) 20 0 0)) := fun lo hi => bt8_lp (lo := lo) (hi := hi) h hb hfr hH' efr eH 20 0 0 400 (by omega) (by omega)
  have lt : ∀ P : Nat → Bool, sp_mk P 20 0 0 < 2 ^ 20 := fun P => sp_mk_lt 20 0 0 (by omega) (by decide)
  have co : nI H ||| (1 : Int32) <<< (nI mm &&& 31) = nI (H ||| 2 ^ mm) := by rw [b_one (by omega), nI_or]
  have lo' : H ||| 2 ^ mm < 2 ^ 20 := or_lt hH' (by omega)
  unfold f_X0_left f_X8_leftIn
  rw [if_pos r2, ek, em, eH, eg, eo, bd1 o5, bd1 o0]
  match o, ho with
  | 1, _ =>
    rw [if_neg (by decide), if_pos (by decide)]
    exact ⟨0, by decide, rfl, rfl⟩
  | 0, _ =>
    rw [if_pos (show nI 0 = 0 by decide), if_neg (show ¬ nI 0 = 1 by decide)]
    match k, hk with
    | 0, _ =>
      exact ⟨H, hH', rfl, by rw [if_neg (by decide), if_neg (by decide), if_neg (by decide), if_neg (by decide), if_neg (by decide), if_neg (by decide), bd1 o3]⟩
    | 1, _ =>
      refine ⟨sp_mk (fun p => H.testBit p && sp_fr fr 3 20 p) 20 0 0, lt _, ?_, ?_⟩
      · rw [if_pos (by decide), bd1 (h7 3 20)]
      · rw [if_pos (by decide), bd1 (h8 3 20)]
    | 2, _ =>
      refine ⟨_, lo', ?_, ?_⟩
      · rw [if_neg (by decide), if_pos (by decide), co]
      · rw [if_neg (by decide), if_pos (by decide), bd1 o3, bd1 o1, co]
    | 3, _ =>
      refine ⟨sp_mk (fun p => H.testBit p && sp_fr fr 0 (19 - nI g) p) 20 0 0, lt _, ?_, ?_⟩
      · rw [if_neg (by decide), if_neg (by decide), if_pos (by decide), bd1 (h7 0 (19 - nI g))]
      · rw [if_neg (by decide), if_neg (by decide), if_pos (by decide), bd1 o4, bd1 (h8 0 (19 - nI g))]
    | 4, _ =>
      refine ⟨sp_mk (fun p => H.testBit p && sp_fr fr 3 20 p) 20 0 0, lt _, ?_, ?_⟩
      · rw [if_neg (by decide), if_neg (by decide), if_neg (by decide), if_pos (by decide), bd1 (h7 3 20)]
      · rw [if_neg (by decide), if_neg (by decide), if_neg (by decide), if_pos (by decide), bd1 (h8 3 20)]
    | 5, _ =>
      refine ⟨_, lo', ?_, ?_⟩
      · rw [if_neg (by decide), if_neg (by decide), if_neg (by decide), if_neg (by decide), if_pos (by decide), co]
      · rw [if_neg (by decide), if_neg (by decide), if_neg (by decide), if_neg (by decide), if_pos (by decide), bd1 o3, bd1 o1, co]
    | 6, _ =>
      refine ⟨sp_mk (fun p => H.testBit p && sp_fr fr 0 (19 - nI g / 2) p) 20 0 0, lt _, ?_, ?_⟩
      · rw [if_neg (by decide), if_neg (by decide), if_neg (by decide), if_neg (by decide), if_neg (by decide), if_pos (by decide), bd1 (h7 0 (19 - nI g / 2))]
      · rw [if_neg (by decide), if_neg (by decide), if_neg (by decide), if_neg (by decide), if_neg (by decide), if_pos (by decide), bd1 o4, bd1 (h8 0 (19 - nI g / 2))]
/-- what is left in a bottle -/
def lf (c : bv_Mem) (b : Nat) : Nat := ((f_X0_left (14 + b) c).getD 0).toNatClampNeg
theorem lf_J {c m : bv_Mem} (h : bv_J c m) {b : Nat} (hb : b < 8) : lf c b < 2 ^ 20 ∧ f_X0_left (14 + b) c = some (nI (lf c b)) ∧ f_X8_leftIn (nI b) m = some (nI (lf c b)) := by
  obtain ⟨L, hL, h7, h8⟩ := left_J h hb
  have e : lf c b = L := by
    unfold lf
    rw [h7]
    exact nI_clamp (by omega)
  rw [e]
  exact ⟨hL, h7, h8⟩
theorem bb_lp {B : Nat} (hB : B < 2 ^ 20) {c : bv_Mem} : ∀ (n i fu : Nat) (z : bv_Mem), i + n = 20 → n < fu → (∀ k, i ≤ k → k < 20 → z 4 k = c 4 k) → b_X1_bringBack_2 fu (nI B) (nI i) z = some (bv_set z 4 (fun k => if B.testBit k = true then 0 else c 4 k) i 20) := by
  intro n
  induction n with
  | zero =>
    intro i fu z hi hf he
    obtain ⟨fu, rfl⟩ : ∃ k, fu = k + 1 := ⟨fu - 1, by omega⟩
    have e : i = 20 := by omega
    subst e
    rw [b_X1_bringBack_2, if_pos (by decide), bv_set_nil (by omega)]
  | succ n ih =>
    intro i fu z hi hf he
    obtain ⟨fu, rfl⟩ : ∃ k, fu = k + 1 := ⟨fu - 1, by omega⟩
    have e1 : ¬ (20 : Int32) ≤ nI i := nI_ge (b := 20) (by omega) (by omega)
    have hs := bv_set_up (mi := z) (a := 4) (lo := i) (hi := 20) (f := fun k => if B.testBit k = true then 0 else c 4 k) (by omega)
    have hb := b_z (X := B) (j := i) (by omega) (by omega)
    rw [← hs]
    cases ht : B.testBit i with
    | true =>
      rw [b_X1_bringBack_2, if_neg e1, if_neg (fun q => by rw [hb.mp q] at ht; cases ht), if_pos (nb_in (by omega) (by omega)), nI_clamp (by omega), show nI i + 1 = nI (i + 1) from nI_1 i, ih (i + 1) fu _ (by omega) (by omega) (fun k h1 h2 => by rw [bv_up_nn (by omega)]; exact he k (by omega) h2)]
      rfl
    | false =>
      have eu : bv_up z 4 i (c 4 i) = z := by
        funext a k
        unfold bv_up
        by_cases hq : a = 4 ∧ k = i
        · rw [if_pos hq, hq.1, hq.2, he i (by omega) (by omega)]
        · rw [if_neg hq]
      rw [b_X1_bringBack_2, if_neg e1, if_pos (hb.mpr ht), show nI i + 1 = nI (i + 1) from nI_1 i, ih (i + 1) fu _ (by omega) (by omega) (fun k h1 h2 => he k (by omega) h2)]
      rw [if_neg (by decide), eu]
theorem op73 {k : Int32 → Int32 → Int32 → Int32 → bv_Mem → Option (Int32 × bv_Mem)} {l1 l2 l3 : Int32} {i : Nat} {z : bv_Mem} (hi : i < 20) : b_X8_open_73 k l1 l2 l3 (nI i) z = k l1 l2 l3 (nI (i + 1)) (bv_up z 62 (31 + i) (z 62 (31 + i))) := by
  have e9 : bv_in (31 + nI i) 371 = true := in_lit (a := 31) (by omega) (by omega)
  have e10 : (31 + nI i).toNatClampNeg = 31 + i := c_lit 31 i (by omega)
  rw [b_X8_open_73, b_X8_open_74, if_pos rfl, b_X8_open_87, if_pos rfl, if_pos e9, e10, Int32.add_zero, show nI i + 1 = nI (i + 1) from nI_1 i]
theorem op74 {k : Int32 → Int32 → Int32 → Int32 → bv_Mem → Option (Int32 × bv_Mem)} {l1 l2 l3 : Int32} {i : Nat} {z : bv_Mem} (hi : i < 20) : b_X8_open_74 k l1 l2 l3 (nI i) 1 z = k l1 l2 (l3 + 1) (nI (i + 1)) (bv_up z 62 (31 + i) 0) := by
  have e9 : bv_in (31 + nI i) 371 = true := in_lit (a := 31) (by omega) (by omega)
  have e10 : (31 + nI i).toNatClampNeg = 31 + i := c_lit 31 i (by omega)
  rw [b_X8_open_74, if_neg (by decide), b_X8_open_87, if_neg (by decide), if_pos e9, e10, show nI i + 1 = nI (i + 1) from nI_1 i]
theorem op8_lp {L b : Nat} (hL : L < 2 ^ 20) (hb : b < 8) {m : bv_Mem} : ∀ (n i X fu : Nat) (z : bv_Mem), i + n = 20 → n < fu → (∀ k, i ≤ k → k < 20 → z 62 (31 + k) = m 62 (31 + k)) → b_X8_open_43 fu (nI b) (nI L) (nI X) (nI i) z = some (nI (sp_ct (fun p => L.testBit p && !(th8 m p)) n i X), bv_up (bv_up (bv_set z 62 (fun k => if (L.testBit (k - 31) && !(th8 m (k - 31))) = true then 0 else m 62 k) (31 + i) 51) 62 (51 + 6 * b + 3) 0) 62 (51 + 6 * b + 5) 1) := by
  intro n
  induction n with
  | zero =>
    intro i X fu z hi hf he
    obtain ⟨fu, rfl⟩ : ∃ k, fu = k + 1 := ⟨fu - 1, by omega⟩
    have e : i = 20 := by omega
    subst e
    have l3 : f_X8_lay (nI b) 3 0 z = some (bv_up z 62 (51 + 6 * b + 3) 0) := lay8 (k := 3) hb (by omega) z
    have l5 : f_X8_lay (nI b) 5 1 (bv_up z 62 (51 + 6 * b + 3) 0) = some (bv_up (bv_up z 62 (51 + 6 * b + 3) 0) 62 (51 + 6 * b + 5) 1) := lay8 (k := 5) hb (by omega) _
    rw [b_X8_open_43, if_pos (by decide), bv_set_nil (by omega), sp_ct, bd1 l3, bd1 l5]
  | succ n ih =>
    intro i X fu z hi hf he
    obtain ⟨fu, rfl⟩ : ∃ k, fu = k + 1 := ⟨fu - 1, by omega⟩
    have e1 : ¬ (20 : Int32) ≤ nI i := nI_ge (b := 20) (by omega) (by omega)
    have e9 : bv_in (31 + nI i) 371 = true := in_lit (a := 31) (by omega) (by omega)
    have e10 : (31 + nI i).toNatClampNeg = 31 + i := c_lit 31 i (by omega)
    have hs := bv_set_up (mi := z) (a := 62) (lo := 31 + i) (hi := 51) (f := fun k => if (L.testBit (k - 31) && !(th8 m (k - 31))) = true then 0 else m 62 k) (by omega)
    have hb2 := b_o (X := L) (j := i) (by omega) (by omega)
    have hth : th8 z i = th8 m i := by
      unfold th8
      rw [he i (by omega) (by omega)]
    rw [← hs, Nat.add_sub_cancel_left, sp_ct, b_X8_open_43, if_neg e1, bd1 (ther8 (by omega)), hth, op73 (by omega), op74 (by omega), show nI X + 1 = nI (X + 1) from nI_1 X]
    have no : b_X8_open_43 fu (nI b) (nI L) (nI X) (nI (i + 1)) (bv_up z 62 (31 + i) (z 62 (31 + i))) = some (nI (sp_ct (fun p => L.testBit p && !(th8 m p)) n (i + 1) X), bv_up (bv_up (bv_set (bv_up z 62 (31 + i) (m 62 (31 + i))) 62 (fun k => if (L.testBit (k - 31) && !(th8 m (k - 31))) = true then 0 else m 62 k) (31 + (i + 1)) 51) 62 (51 + 6 * b + 3) 0) 62 (51 + 6 * b + 5) 1) := by
      rw [ih (i + 1) X fu _ (by omega) (by omega) (fun k h1 h2 => by rw [bv_up_nn (by omega)]; exact he k (by omega) h2), he i (by omega) (by omega)]
    cases ht : L.testBit i with
    | false =>
      rw [if_neg (fun q => by rw [hb2.mp q] at ht; cases ht), no]
      rfl
    | true =>
      rw [if_pos (hb2.mpr ht)]
      cases hq : th8 m i with
      | true =>
        rw [if_neg (by decide), no]
        rfl
      | false =>
        rw [if_pos (by decide), ih (i + 1) (X + 1) fu _ (by omega) (by omega) (fun k h1 h2 => by rw [bv_up_nn (by omega)]; exact he k (by omega) h2)]
        rfl
theorem J_miss {f7 f8 : Nat → Int32} : ∀ (n i : Nat) (c m : bv_Mem), i + n = 20 → bv_J c m → (∀ p, i ≤ p → p < 20 → (∃ v, v ≤ 99 ∧ f7 p = nI v) ∧ f8 (31 + p) = f7 p) → bv_J (bv_set c 4 f7 i 20) (bv_set m 62 f8 (31 + i) 51) := by
  intro n
  induction n with
  | zero =>
    intro i c m hi h _
    rw [bv_set_nil (by omega), bv_set_nil (by omega)]
    exact h
  | succ n ih =>
    intro i c m hi h hf
    obtain ⟨⟨v, hv, e1⟩, e2⟩ := hf i (by omega) (by omega)
    rw [← bv_set_up (mi := c) (a := 4) (lo := i) (by omega), ← bv_set_up (mi := m) (a := 62) (lo := 31 + i) (by omega), e2, e1]
    exact ih (i + 1) _ _ (by omega) (J_up 0 (by unfold bt_cor; omega) (ok_miss hv) h) (fun p h1 h2 => hf p (by omega) h2)
theorem S_open : bv_S_open bv_I := by
  intro p mi hI
  refine lock (F7 := f_X7_open p) (F8 := f_X8_open p) ?_ mi hI
  intro c m h
  obtain ⟨f, hf, ef⟩ := WJ_fil h
  have ef8 : m 62 3 = nI f := (RJ_f h).trans ef
  by_cases hp : 0 ≤ p ∧ p ≤ nI f - 1
  · obtain ⟨b, hb, rfl⟩ := n_of1 hp (by omega)
    obtain ⟨r1, r2⟩ := bo_rf b (by omega)
    obtain ⟨-, -, -, -, -, ⟨o, ho, eo⟩⟩ := WJ_b h (b := b) (by omega)
    have o5 : f_X8_of (nI b) 5 m = some (nI o) := by rw [← eo]; exact of8J (k := 5) h (by omega) (by omega)
    match o, ho with
    | 1, _ =>
      refine out_err 3 (-1000000003) h ?_ ?_
      · unfold f_X7_open
        rw [bd1 (bo7t hf ef hb), if_neg (by decide), if_pos (nb_in (by omega) (by omega)), nI_clamp (by omega), bd1 r1, if_pos r2, eo, if_neg (by decide), bd1 (x7_e3 c)]
      · unfold f_X8_open
        rw [bd1 (bo8t hf ef8 hb), if_neg (by decide), bd1 o5, if_pos (by decide), bd1 (x8_e3 m)]
    | 0, _ =>
      obtain ⟨hL, l7, l8⟩ := lf_J h (b := b) (by omega)
      have hB : lf c b &&& sp_gone c 0 < 2 ^ 20 := Nat.lt_of_le_of_lt Nat.and_le_left hL
      have eB : lf c b &&& sp_gone c 0 = sp_mk (fun p => (lf c b).testBit p && !(th8 m p)) 20 0 0 := by
        apply Nat.eq_of_testBit_eq
        intro j
        rw [Nat.testBit_and, sp_mk_bit, Nat.zero_testBit, Bool.false_or]
        by_cases hj : j < 20
        · rw [gone_bit hj, th_eq h hj, decide_eq_true (by omega : 0 ≤ j ∧ j < 0 + 20), Bool.true_and]
          rfl
        · have z1 : (lf c b).testBit j = false := Nat.testBit_lt_two_pow (Nat.lt_of_lt_of_le hL (Nat.pow_le_pow_right (by omega) (by omega)))
          rw [z1, Bool.false_and, Bool.false_and, Bool.and_false]
      have k7 : f_X1_bringBack (nI (lf c b &&& sp_gone c 0)) c = some (bv_set c 4 (fun k => if (lf c b &&& sp_gone c 0).testBit k = true then 0 else c 4 k) 0 20) := bb_lp hB 20 0 400 c (by omega) (by omega) (fun _ _ _ => rfl)
      have k8 := op8_lp (m := m) hL (show b < 8 by omega) 20 0 0 400 m (by omega) (by omega) (fun _ _ _ => rfl)
      have ect : sp_pc 20 (lf c b &&& sp_gone c 0) = sp_ct (fun p => (lf c b).testBit p && !(th8 m p)) 20 0 0 := by
        rw [eB, pc_mk 20 0 0 (by omega) (by decide), pc_0]
      have j1 : bv_J (bv_set c 4 (fun k => if (lf c b &&& sp_gone c 0).testBit k = true then 0 else c 4 k) 0 20) (bv_set m 62 (fun k => if ((lf c b).testBit (k - 31) && !(th8 m (k - 31))) = true then 0 else m 62 k) (31 + 0) 51) := by
        refine J_miss 20 0 c m (by omega) h ?_
        intro q _ hq
        have e1 : (lf c b &&& sp_gone c 0).testBit q = ((lf c b).testBit q && !(th8 m q)) := by
          rw [eB, sp_mk_bit, Nat.zero_testBit, Bool.false_or, decide_eq_true (by omega : 0 ≤ q ∧ q < 0 + 20), Bool.true_and]
        rw [e1, Nat.add_sub_cancel_left]
        cases ((lf c b).testBit q && !(th8 m q)) with
        | true => exact ⟨⟨0, by omega, rfl⟩, rfl⟩
        | false => exact ⟨WJ_g h hq, RJ_g h hq⟩
      have j2 := J_up (v := 0) b (cor_b (k := 3) (show b < 8 by omega) (by omega)) (ok_b3 (v := 0) (show b < 8 by omega) (by omega)) j1
      have j3 := J_up (v := 1) b (cor_b (k := 5) (show b < 8 by omega) (by omega)) (ok_b5 (v := 1) (show b < 8 by omega) (by omega)) j2
      refine ⟨nI (sp_ct (fun p => (lf c b).testBit p && !(th8 m p)) 20 0 0), _, _, ?_, ?_, j3, ?_, ?_⟩
      · unfold f_X7_open
        rw [bd1 (bo7t hf ef hb), if_neg (by decide), if_pos (nb_in (by omega) (by omega)), nI_clamp (by omega), bd1 r1, if_pos r2, eo, if_pos (by decide), bd1 l7, bd1 (gone7 c 0), nI_and, bd1 k7, bd1 (bc7 hB _), ect]
      · unfold f_X8_open
        rw [bd1 (bo8t hf ef8 hb), if_neg (by decide), bd1 o5, if_neg (by decide), bd1 l8]
        exact k8
      · intro a ha
        rw [bv_up_row (by omega), bv_up_row (by omega), bv_set_row (by omega)]
      · intro a ha
        rw [bv_up_row (by omega), bv_up_row (by omega), bv_set_row (by omega)]
  · have p7 : f_X7_isBottle p c = some 0 := by rw [bo7, ef, if_neg hp]
    have p8 : f_X8_isBottle p m = some 0 := by rw [bo8, ef8, if_neg hp]
    refine out_err 1 (-1000000001) h ?_ ?_
    · unfold f_X7_open
      rw [bd1 p7, if_pos rfl, bd1 (x7_e1 c)]
    · unfold f_X8_open
      rw [bd1 p8, if_pos rfl, bd1 (x8_e1 m)]
-- ===== blend =====
theorem sh1 {L : Nat} (hL : L < 2 ^ 20) : nI L <<< ((1 : Int32) &&& 31) = nI (L * 2) := pk_shlN _ 1 (by decide) (by omega)
theorem sr1 {L : Nat} (hL : L < 2 ^ 20) : nI L >>> ((1 : Int32) &&& 31) = nI (L / 2) := pk_shrN (by omega) _ 1 (by decide)
theorem and_0 {A B : Nat} (hA : A < 2 ^ 31) : (nI A &&& nI B = 0) ↔ ∀ j, A.testBit j = true → B.testBit j = false := by
  have hl : A &&& B < 2 ^ 31 := Nat.lt_of_le_of_lt Nat.and_le_left hA
  rw [nI_and, show (0 : Int32) = nI 0 from rfl, nI_eq hl (by omega)]
  constructor
  · intro e j hj
    have : (A &&& B).testBit j = false := by rw [e, Nat.zero_testBit]
    rw [Nat.testBit_and, hj, Bool.true_and] at this
    exact this
  · intro hq
    apply Nat.eq_of_testBit_eq
    intro j
    rw [Nat.testBit_and, Nat.zero_testBit]
    cases ha : A.testBit j with
    | false => rfl
    | true => rw [hq j ha]; rfl
theorem t_dbl (L j : Nat) : (L * 2).testBit j = (decide (0 < j) && L.testBit (j - 1)) := by
  have h := Nat.testBit_mul_two_pow L j 1
  rw [show (2 : Nat) ^ 1 = 2 from rfl] at h
  rw [h]
  by_cases hj : 1 ≤ j
  · simp [hj, show 0 < j by omega]
  · simp [hj, show ¬ 0 < j by omega]
theorem t_hlf (L j : Nat) : (L / 2).testBit j = L.testBit (j + 1) := Nat.testBit_div_two L j
theorem bl_eq {A B : Nat} (hA : A < 2 ^ 20) (hB : B < 2 ^ 20) : ((nI (A * 2) ||| nI (A / 2)) &&& nI B = 0) ↔ (nI (A * 2) &&& nI B = 0 ∧ nI (B * 2) &&& nI A = 0) := by
  have hor : A * 2 ||| A / 2 < 2 ^ 31 := Nat.or_lt_two_pow (by omega) (by omega)
  rw [nI_or, and_0 hor, and_0 (A := A * 2) (by omega), and_0 (A := B * 2) (by omega)]
  constructor
  · intro hq
    refine ⟨fun j hj => hq j (by rw [Nat.testBit_or, hj, Bool.true_or]), fun j hj => ?_⟩
    rw [t_dbl] at hj
    have h0 : 0 < j := by
      rcases Nat.eq_zero_or_pos j with q | q
      · subst q; simp at hj
      · exact q
    rw [decide_eq_true h0, Bool.true_and] at hj
    cases ha : A.testBit j with
    | false => rfl
    | true =>
      have := hq (j - 1) (by rw [Nat.testBit_or, t_hlf, show j - 1 + 1 = j by omega, ha, Bool.or_true])
      rw [hj] at this
      exact this
  · rintro ⟨h1, h2⟩ j hj
    rw [Nat.testBit_or] at hj
    cases hd : (A * 2).testBit j with
    | true => exact h1 j hd
    | false =>
      rw [hd, Bool.false_or, t_hlf] at hj
      cases hb : B.testBit j with
      | false => rfl
      | true =>
        have := h2 (j + 1) (by rw [t_dbl, Nat.add_sub_cancel, hb, decide_eq_true (by omega : 0 < j + 1)]; rfl)
        rw [hj] at this
        exact this
theorem S_blend : bv_S_blend bv_I := by
  intro p q mi hI
  refine lock (F7 := f_X7_blend p q) (F8 := f_X8_blend p q) ?_ mi hI
  intro c m h
  obtain ⟨f, hf, ef⟩ := WJ_fil h
  have ef8 : m 62 3 = nI f := (RJ_f h).trans ef
  by_cases hp : 0 ≤ p ∧ p ≤ nI f - 1
  · obtain ⟨a, ha, rfl⟩ := n_of1 hp (by omega)
    obtain ⟨r1, r2⟩ := bo_rf a (by omega)
    by_cases hq : 0 ≤ q ∧ q ≤ nI f - 1
    · obtain ⟨b, hb, rfl⟩ := n_of1 hq (by omega)
      obtain ⟨s1, s2⟩ := bo_rf b (by omega)
      by_cases hab : nI a = nI b
      · refine out_err 1 (-1000000001) h ?_ ?_
        · unfold f_X7_blend
          rw [bd1 (bo7t hf ef ha), if_neg (by decide), bd1 (bo7t hf ef hb), if_neg (by decide), if_pos hab, bd1 (x7_e1 c)]
        · unfold f_X8_blend
          rw [bd1 (bo8t hf ef8 ha), if_neg (by decide), bd1 (bo8t hf ef8 hb), if_neg (by decide), if_pos hab, bd1 (x8_e1 m)]
      · obtain ⟨hL, l7, l8⟩ := lf_J h (b := a) (by omega)
        obtain ⟨hM, m7, m8⟩ := lf_J h (b := b) (by omega)
        have be := bl_eq hL hM
        have e7 : f_X7_blend (nI a) (nI b) c = if nI (lf c a * 2) &&& nI (lf c b) = 0 then if nI (lf c b * 2) &&& nI (lf c a) = 0 then b_X7_blend_77 (nI (lf c a)) (nI (lf c b)) 0 c else b_X7_blend_72 (nI (lf c a)) (nI (lf c b)) c else b_X7_blend_72 (nI (lf c a)) (nI (lf c b)) c := by
          unfold f_X7_blend
          rw [bd1 (bo7t hf ef ha), if_neg (by decide), bd1 (bo7t hf ef hb), if_neg (by decide), if_neg hab, if_pos (nb_in (by omega) (by omega)), nI_clamp (by omega), bd1 r1, if_pos r2, bd1 l7, if_pos (nb_in (by omega) (by omega)), nI_clamp (by omega), bd1 s1, if_pos s2, bd1 m7, sh1 hL, sh1 hM]
        have e8 : f_X8_blend (nI a) (nI b) m = if nI (lf c a) &&& nI (lf c b) = 0 then if (nI (lf c a * 2) ||| nI (lf c a / 2)) &&& nI (lf c b) = 0 then b_X8_blend_65 (nI (lf c a)) (nI (lf c b)) m else b_X8_blend_66 (nI (lf c a)) (nI (lf c b)) 1 m else b_X8_blend_65 (nI (lf c a)) (nI (lf c b)) m := by
          unfold f_X8_blend
          rw [bd1 (bo8t hf ef8 ha), if_neg (by decide), bd1 (bo8t hf ef8 hb), if_neg (by decide), if_neg hab, bd1 l8, bd1 m8, sh1 hL, sr1 hL]
        by_cases h1 : nI (lf c a) &&& nI (lf c b) = 0
        · by_cases h2 : nI (lf c a * 2) &&& nI (lf c b) = 0 ∧ nI (lf c b * 2) &&& nI (lf c a) = 0
          · refine out_err 3 (-1000000003) h ?_ ?_
            · rw [e7, if_pos h2.1, if_pos h2.2, b_X7_blend_77, if_pos h1, if_pos rfl, bd1 (x7_e3 c)]
            · rw [e8, if_pos h1, if_pos (be.mpr h2), b_X8_blend_65, b_X8_blend_66, if_pos rfl, bd1 (x8_e3 m)]
          · refine out_ro (nI (lf c a) ||| nI (lf c b)) h ?_ ?_
            · have e72 : b_X7_blend_72 (nI (lf c a)) (nI (lf c b)) c = some (nI (lf c a) ||| nI (lf c b), c) := by
                rw [b_X7_blend_72, b_X7_blend_77, if_pos h1, if_neg (by decide)]
              rw [e7, e72]
              by_cases h3 : nI (lf c a * 2) &&& nI (lf c b) = 0
              · rw [if_pos h3, if_neg (fun w => h2 ⟨h3, w⟩)]
              · rw [if_neg h3]
            · rw [e8, if_pos h1, if_neg (fun w => h2 (be.mp w)), b_X8_blend_66, if_neg (by decide)]
        · refine out_err 3 (-1000000003) h ?_ ?_
          · have e77 : ∀ s, b_X7_blend_77 (nI (lf c a)) (nI (lf c b)) s c = some (-1000000003, er7 3 c) := by
              intro s
              rw [b_X7_blend_77, if_neg h1, bd1 (x7_e3 c)]
            rw [e7, b_X7_blend_72, e77, e77]
            split
            · split <;> rfl
            · rfl
          · rw [e8, if_neg h1, b_X8_blend_65, b_X8_blend_66, if_pos rfl, bd1 (x8_e3 m)]
    · have p7 : f_X7_isBottle q c = some 0 := by rw [bo7, ef, if_neg hq]
      have p8 : f_X8_isBottle q m = some 0 := by rw [bo8, ef8, if_neg hq]
      refine out_err 1 (-1000000001) h ?_ ?_
      · unfold f_X7_blend
        rw [bd1 (bo7t hf ef ha), if_neg (by decide), bd1 p7, if_pos rfl, bd1 (x7_e1 c)]
      · unfold f_X8_blend
        rw [bd1 (bo8t hf ef8 ha), if_neg (by decide), bd1 p8, if_pos rfl, bd1 (x8_e1 m)]
  · have p7 : f_X7_isBottle p c = some 0 := by rw [bo7, ef, if_neg hp]
    have p8 : f_X8_isBottle p m = some 0 := by rw [bo8, ef8, if_neg hp]
    refine out_err 1 (-1000000001) h ?_ ?_
    · unfold f_X7_blend
      rw [bd1 p7, if_pos rfl, bd1 (x7_e1 c)]
    · unfold f_X8_blend
      rw [bd1 p8, if_pos rfl, bd1 (x8_e1 m)]
