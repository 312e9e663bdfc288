-- ===== the law of a use =====
theorem hd_eq {x l h : Int32} (hl : l ≤ h) (c m : bv_Mem) : ∃ v, f_X7_held x l h c = some v ∧ f_X8_held x l h m = some v ∧ l ≤ v ∧ v ≤ h := by
  have a := i_le.mp hl
  unfold f_X7_held f_X8_held bv_max bv_min
  by_cases h1 : l ≤ x
  · have b := i_le.mp h1
    rw [if_pos h1]
    by_cases h2 : x ≤ h
    · have d := i_le.mp h2
      rw [if_pos h2]
      refine ⟨x, ?_, rfl, h1, h2⟩
      congr 1
      by_cases h3 : x < h
      · rw [if_pos h3]
        by_cases h4 : l < x
        · rw [if_pos h4]
        · rw [if_neg h4]
          have e := i_le.mp (i_nlt.mp h4)
          exact Int32.toInt_inj.mp (by omega)
      · rw [if_neg h3]
        have e := i_le.mp (i_nlt.mp h3)
        have e2 : h = x := Int32.toInt_inj.mp (by omega)
        rw [e2]
        by_cases h4 : l < x
        · rw [if_pos h4]
        · rw [if_neg h4]
          have e := i_le.mp (i_nlt.mp h4)
          exact Int32.toInt_inj.mp (by omega)
    · rw [if_neg h2]
      refine ⟨h, ?_, rfl, hl, i_le.mpr (by omega)⟩
      have d := i_lt.mp (i_nle.mp h2)
      congr 1
      have nx : ¬ x < h := fun q => by have := i_lt.mp q; omega
      rw [if_neg nx]
      by_cases h4 : l < h
      · rw [if_pos h4]
      · rw [if_neg h4]
        have e := i_le.mp (i_nlt.mp h4)
        exact Int32.toInt_inj.mp (by omega)
  · have b := i_lt.mp (i_nle.mp h1)
    rw [if_neg h1]
    refine ⟨l, ?_, rfl, i_le.mpr (by omega), hl⟩
    congr 1
    rw [if_pos (show x < h from i_lt.mpr (by omega)), if_neg (fun q => by have := i_lt.mp q; omega)]
def px_pl (z : bv_Mem) (st : List Int32) : Prop := ∀ j, j < st.length → z 69 (st.length - 1 - j) = st.getD j 0
theorem pl_push {z : bv_Mem} {st : List Int32} {x : Int32} (h : px_pl z st) : px_pl (bv_up z 69 st.length x) (x :: st) := by
  intro j hj
  rw [List.length_cons] at hj ⊢
  match j, hj with
  | 0, _ =>
    rw [show st.length + 1 - 1 - 0 = st.length by omega, bv_up_eq]
    rfl
  | j + 1, hj =>
    rw [bv_up_nn (by omega), show st.length + 1 - 1 - (j + 1) = st.length - 1 - j by omega, h j (by omega)]
    rfl
theorem pl_pop {z : bv_Mem} {st : List Int32} {x : Int32} (h : px_pl z (x :: st)) : px_pl z st ∧ z 69 st.length = x := by
  constructor
  · intro j hj
    have := h (j + 1) (by rw [List.length_cons]; omega)
    rw [List.length_cons, show st.length + 1 - 1 - (j + 1) = st.length - 1 - j by omega] at this
    exact this
  · have := h 0 (by rw [List.length_cons]; omega)
    rw [List.length_cons, show st.length + 1 - 1 - 0 = st.length by omega] at this
    exact this
theorem run8 {at_ : Nat} {fa : Nat → Int32} (ha : at_ ≤ 270) : ∀ (cd : px_L) (st st' : List Int32) (k fu : Nat) (z : bv_Mem), px_run fa cd st = some st' → z 62 at_ = nI (k + cd.length) → (∀ j, j < cd.length → z 62 (at_ + 1 + k + j) = (cd.getD j (0, 0)).1 ∧ z 62 (at_ + 51 + k + j) = (cd.getD j (0, 0)).2) → st.length ≤ k → k + cd.length ≤ 50 → px_pl z st → (∀ j, j < 3 → z 68 j = fa j) → cd.length < fu → ∃ z', b_X8_works_4 fu (nI at_) (nI st.length) (nI k) z = some (z' 69 0, z') ∧ px_pl z' st' ∧ ∀ x, x ≠ 69 → z' x = z x := by
  intro cd
  induction cd with
  | nil =>
    intro st st' k fu z hr he _ hs hk hp _ hf
    obtain ⟨fu, rfl⟩ : ∃ k, fu = k + 1 := ⟨fu - 1, by omega⟩
    rw [run_nil] at hr
    have := Option.some.inj hr
    subst this
    refine ⟨z, ?_, hp, fun _ _ => rfl⟩
    rw [b_X8_works_4, if_pos (nb_in (by omega) (by omega)), nI_clamp (by omega), he, List.length_nil, Nat.add_zero, if_pos (nI_le (Nat.le_refl k) (by omega))]
  | cons p t ih =>
    obtain ⟨w, x⟩ := p
    intro st st' k fu z hr he hc hs hk hp hfa hf
    rw [List.length_cons] at he hk hf
    obtain ⟨fu, rfl⟩ : ∃ k, fu = k + 1 := ⟨fu - 1, by omega⟩
    have h0 := hc 0 (by rw [List.length_cons]; omega)
    have c1 : z 62 (at_ + 1 + k) = w := h0.1
    have c2 : z 62 (at_ + 51 + k) = x := h0.2
    have a1 : nI at_ + 1 + nI k = nI (at_ + 1 + k) := by rw [nI_1, nI_add]
    have a2 : nI at_ + 51 + nI k = nI (at_ + 51 + k) := by
      have : nI at_ + 51 = nI (at_ + 51) := nI_add at_ 51
      rw [this, nI_add]
    have next : ∀ (s1 : List Int32) (v : Int32) (z1 : bv_Mem) (q : Nat), z1 = bv_up z 69 q v → px_run fa t s1 = some st' → s1.length ≤ k + 1 → px_pl z1 s1 → ∃ z', b_X8_works_4 fu (nI at_) (nI s1.length) (nI (k + 1)) z1 = some (z' 69 0, z') ∧ px_pl z' st' ∧ ∀ x, x ≠ 69 → z' x = z x := by
      intro s1 v z1 q hz hr1 hl1 hp1
      have er : ∀ x, x ≠ 69 → z1 x = z x := fun x hx => by rw [hz, bv_up_row hx]
      obtain ⟨z', g1, g2, g3⟩ := ih s1 st' (k + 1) fu z1 hr1 (by rw [er 62 (by decide), he]; congr 1; omega) (fun j hj => by
        have := hc (j + 1) (by rw [List.length_cons]; omega)
        rw [er 62 (by decide), show at_ + 1 + (k + 1) + j = at_ + 1 + k + (j + 1) by omega, show at_ + 51 + (k + 1) + j = at_ + 51 + k + (j + 1) by omega]
        exact this) hl1 (by omega) hp1 (fun j hj => by rw [er 68 (by decide)]; exact hfa j hj) (by omega)
      exact ⟨z', g1, g2, fun x hx => (g3 x hx).trans (er x hx)⟩
    rw [run_cons] at hr
    rw [b_X8_works_4, if_pos (nb_in (by omega) (by omega)), nI_clamp (by omega), he, if_neg (nI_ge (by omega) (by omega)), a1, if_pos (nb_in (by omega) (by omega)), nI_clamp (by omega), c1, show nI k + 1 = nI (k + 1) from nI_1 k]
    by_cases w1 : w = 1
    · rw [if_pos w1] at hr ⊢
      rw [b_X8_works_38, if_pos w1, a2, if_pos (nb_in (by omega) (by omega)), if_pos (nb_in (by omega) (by omega)), nI_clamp (by omega), nI_clamp (by omega), c2, show nI k + 1 = nI (k + 1) from nI_1 k, show nI st.length + 1 = nI (st.length + 1) from nI_1 _]
      exact next (x :: st) x _ st.length rfl hr (by rw [List.length_cons]; omega) (pl_push hp)
    · rw [if_neg w1] at hr ⊢
      by_cases w2 : w = 2
      · rw [if_pos w2] at hr ⊢
        by_cases hx : bv_in x 3 = true
        · rw [if_pos hx] at hr
          have hx3 : x.toNatClampNeg < 3 := by
            unfold bv_in at hx
            simp at hx
            exact hx.2
          rw [b_X8_works_38, if_neg w1, a2, if_pos (nb_in (by omega) (by omega)), nI_clamp (by omega), c2, if_pos hx, if_pos (nb_in (by omega) (by omega)), nI_clamp (by omega), hfa _ hx3, show nI k + 1 = nI (k + 1) from nI_1 k, show nI st.length + 1 = nI (st.length + 1) from nI_1 _]
          exact next (fa x.toNatClampNeg :: st) (fa x.toNatClampNeg) _ st.length rfl hr (by rw [List.length_cons]; omega) (pl_push hp)
        · rw [if_neg hx] at hr
          cases hr
      · rw [if_neg w2] at hr ⊢
        by_cases w3 : w = 3
        · rw [if_pos w3] at hr ⊢
          cases st with
          | nil => cases hr
          | cons a s =>
            dsimp only at hr
            obtain ⟨p1, p2⟩ := pl_pop hp
            rw [List.length_cons] at hs ⊢
            rw [show nI (s.length + 1) - 1 = nI s.length from nI_pred _, if_pos (nb_in (by omega) (by omega)), nI_clamp (by omega), p2]
            by_cases h0 : a = 0
            · rw [if_pos h0] at hr ⊢
              exact next (1 :: s) 1 _ s.length rfl hr (by rw [List.length_cons]; omega) (pl_push p1)
            · rw [if_neg h0] at hr ⊢
              exact next (0 :: s) 0 _ s.length rfl hr (by rw [List.length_cons]; omega) (pl_push p1)
        · rw [if_neg w3] at hr ⊢
          match st, hr, hs, hp with
          | [], hr, _, _ => cases hr
          | [a], hr, _, _ => cases hr
          | b :: a :: s, hr, hs, hp =>
            dsimp only at hr
            obtain ⟨p1, p2⟩ := pl_pop hp
            obtain ⟨p3, p4⟩ := pl_pop p1
            cases htw : f_X8_twoOf w a b px_m0 with
            | none => rw [htw] at hr; cases hr
            | some v =>
              rw [htw] at hr
              have hr2 : px_run fa t (v :: s) = some st' := hr
              have htz : f_X8_twoOf w a b z = some v := htw
              rw [List.length_cons] at p2
              rw [List.length_cons, List.length_cons] at hs ⊢
              rw [show nI (s.length + 1 + 1) + (-1) = nI (s.length + 1) from pk_m1 _, show nI (s.length + 1) - 1 = nI s.length from nI_pred _, if_pos (nb_in (by omega) (by omega)), if_pos (nb_in (by omega) (by omega)), nI_clamp (by omega), nI_clamp (by omega), p2, p4, bd1 htz]
              exact next (v :: s) v _ s.length rfl hr2 (by rw [List.length_cons]; omega) (pl_push p3)
theorem tk_at {u : Nat} : (169 : Int32) + 101 * nI u = nI (tx_k u) := by
  unfold tx_k
  rw [show (169 : Int32) = nI 169 from rfl, show (101 : Int32) = nI 101 from rfl, pk_mul, nI_add]
theorem law_x {c m : bv_Mem} {u : Nat} (hu : u ≤ 1) (hx : bt_X u (c (tx_c u + 1)) (c (tx_c u) 1) (fun k => m 62 (tx_k u + k))) (a b d : Int32) : ∃ v c' m', f_X7_lawGives (nI u) a b d c = some (v, c') ∧ f_X8_gives (nI u) a b d m = some (v, m') ∧ (∀ x, x ≠ 43 → x ≠ 46 → c' x = c x) ∧ (∀ x, x ≠ 68 → x ≠ 69 → m' x = m x) ∧ (u = 0 → ∃ w, w ≤ 99 ∧ v = nI w) := by
  have hK : tx_k u ≤ 270 := by unfold tx_k; omega
  have tc : tx_c u = 7 ∨ tx_c u = 9 ∨ tx_c u = 11 := by unfold tx_c; omega
  obtain ⟨r1, -, -, -⟩ := tp_rf _ tc
  have fin : ∀ (x : Int32) (y z : bv_Mem), (∀ x, x ≠ 43 → x ≠ 46 → y x = c x) → (∀ x, x ≠ 68 → x ≠ 69 → z x = m x) → f_X7_lawGives (nI u) a b d c = (if nI u = 0 then (f_X7_held x 1 99 y).bind fun w => some (w, y) else (f_X7_held x 0 999 y).bind fun w => some (w, y)) → f_X8_gives (nI u) a b d m = b_X8_gives_66 (nI u) x z → ∃ v c' m', f_X7_lawGives (nI u) a b d c = some (v, c') ∧ f_X8_gives (nI u) a b d m = some (v, m') ∧ (∀ x, x ≠ 43 → x ≠ 46 → c' x = c x) ∧ (∀ x, x ≠ 68 → x ≠ 69 → m' x = m x) ∧ (u = 0 → ∃ w, w ≤ 99 ∧ v = nI w) := by
    intro x y z hy hz e7 e8
    rw [e7, e8, b_X8_gives_66]
    by_cases h0 : u = 0
    · subst h0
      obtain ⟨v, g1, g2, g3, g4⟩ := hd_eq (x := x) (l := 1) (h := 99) (by decide) y z
      rw [if_pos nI_0, if_pos nI_0, bd1 g1, bd1 g2]
      refine ⟨v, y, z, rfl, rfl, hy, hz, fun _ => ?_⟩
      obtain ⟨w, -, hw, e⟩ := n_of0 ⟨g3, g4⟩ (n := 99) rfl
      exact ⟨w, hw, e⟩
    · have hn : ¬ nI u = 0 := nI_ne0 (by omega) (by omega)
      obtain ⟨v, g1, g2, g3, g4⟩ := hd_eq (x := x) (l := 0) (h := 999) (by decide) y z
      rw [if_neg hn, if_neg hn, bd1 g1, bd1 g2]
      exact ⟨v, y, z, rfl, rfl, hy, hz, fun q => absurd q h0⟩
  have z0r : ∀ x, x ≠ 68 → bv_up (bv_up (bv_up m 68 0 a) 68 1 b) 68 2 d x = m x := fun x hx => by rw [bv_up_row hx, bv_up_row hx, bv_up_row hx]
  have m62 : bv_up (bv_up (bv_up m 68 0 a) 68 1 b) 68 2 d 62 = m 62 := z0r 62 (by decide)
  obtain ⟨n, hn, en, hx⟩ := hx
  rcases hx with ⟨hn0, h0⟩ | ⟨hn0, cd, hp, hc0, hc, hl, hcd⟩
  · have e0 : c (tx_c u) 1 ≤ 0 := by rw [en, hn0]; decide
    have m0 : m 62 (tx_k u) = 0 := h0
    have e7 : f_X7_lawGives (nI u) a b d c = (if nI u = 0 then (f_X7_held (3 + a) 1 99 c).bind fun w => some (w, c) else (f_X7_held (a * 2 + b) 0 999 c).bind fun w => some (w, c)) := by
      unfold f_X7_lawGives
      rw [bd1 (to7 hu c), if_pos r1, if_pos e0]
      by_cases hz : nI u = 0
      · rw [if_pos hz, if_pos hz]
      · rw [if_neg hz, if_neg hz, if_pos r1, if_pos e0]
    have e8 : f_X8_gives (nI u) a b d m = if nI u = 0 then b_X8_gives_66 (nI u) (3 + a) (bv_up (bv_up (bv_up m 68 0 a) 68 1 b) 68 2 d) else b_X8_gives_66 (nI u) (2 * a + b) (bv_up (bv_up (bv_up m 68 0 a) 68 1 b) 68 2 d) := by
      unfold f_X8_gives
      rw [tk_at, if_pos (nb_in (by omega) (by omega)), nI_clamp (by omega), m62, m0, if_pos (by decide)]
    by_cases hz : nI u = 0
    · rw [if_pos hz] at e8
      refine fin (3 + a) c _ (fun _ _ _ => rfl) (fun x hx _ => z0r x hx) ?_ e8
      rw [e7, if_pos hz, if_pos hz]
    · rw [if_neg hz, Int32.mul_comm] at e8
      refine fin (a * 2 + b) c _ (fun _ _ _ => rfl) (fun x hx _ => z0r x hx) ?_ e8
      rw [e7, if_neg hz, if_neg hz]
  · have e0 : ¬ c (tx_c u) 1 ≤ 0 := by rw [en]; exact nI_nle hn0 (by omega)
    have m0 : ¬ m 62 (tx_k u) ≤ 0 := by
      have : m 62 (tx_k u) = nI cd.length := hl
      rw [this]
      exact nI_nle hc0 (by omega)
    obtain ⟨v, y, k1, k2, k3, -⟩ := worth7 (a := a) (b := b) (d := d) (u := u) ⟨tc, hn, en⟩ hu
    rw [hp] at k3
    obtain ⟨-, kv⟩ := k3 ⟨rfl, rfl⟩
    obtain ⟨z, g1, g2, g3⟩ := run8 (fa := px_fa a b d) hK cd [] [v] 0 400 (bv_up (bv_up (bv_up m 68 0 a) 68 1 b) 68 2 d) (kv []) (by rw [m62, Nat.zero_add]; exact hl) (fun j hj => by
      rw [m62]
      have := hcd j hj
      rw [show tx_k u + 1 + 0 + j = tx_k u + (1 + j) by omega, show tx_k u + 51 + 0 + j = tx_k u + (51 + j) by omega]
      exact this) (by simp) (by omega) (fun j hj => absurd hj (Nat.not_lt_zero j)) (fun j hj => by
      match j, hj with
      | 0, _ => rw [bv_up_nn (by omega), bv_up_nn (by omega), bv_up_eq]; rfl
      | 1, _ => rw [bv_up_nn (by omega), bv_up_eq]; rfl
      | 2, _ => rw [bv_up_eq]; rfl) (by omega)
    have gv : z 69 0 = v := g2 0 (by simp)
    rw [gv] at g1
    have g1' : f_X8_works (nI (tx_k u)) (bv_up (bv_up (bv_up m 68 0 a) 68 1 b) 68 2 d) = some (v, z) := g1
    refine fin v y z k2.1 (fun x h1 h2 => (g3 x h2).trans (z0r x h1)) ?_ ?_
    · unfold f_X7_lawGives
      rw [bd1 (to7 hu c), if_pos r1, if_neg e0, bd1 k1]
      by_cases hz : nI u = 0
      · rw [if_pos hz, if_pos hz]
      · rw [if_neg hz, if_neg hz, if_pos r1, if_neg e0, bd1 k1]
    · unfold f_X8_gives
      rw [tk_at, if_pos (nb_in (by omega) (by omega)), nI_clamp (by omega), m62, if_neg m0, bd1 g1']
theorem J_X {c m : bv_Mem} (h : bv_J c m) {u : Nat} (hu : u ≤ 1) : bt_X u (c (tx_c u + 1)) (c (tx_c u) 1) (fun k => m 62 (tx_k u + k)) := by
  obtain ⟨-, -, -, -, -, -, -, h8, h9⟩ := h.1.2
  match u, hu with
  | 0, _ => exact h8
  | 1, _ => exact h9
theorem s7_43 {c c' : bv_Mem} (h : ∀ x, x ≠ 43 → x ≠ 46 → c' x = c x) : bt_s7 c c' := by
  intro a k ha hs
  rw [h a]
  · rintro rfl
    simp [bt_scr] at hs
  · rintro rfl
    simp [bt_scr] at hs
theorem s8_68 {c c' : bv_Mem} (h : ∀ x, x ≠ 68 → x ≠ 69 → c' x = c x) : bt_s8 c c' := by
  intro a k ha hs
  rw [h a]
  · rintro rfl
    simp [bt_scr] at hs
  · rintro rfl
    simp [bt_scr] at hs
theorem S_law : bv_S_law bv_I := by
  intro p a b d mi hI
  refine lock (F7 := f_X7_law p a b d) (F8 := f_X8_law p a b d) ?_ mi hI
  intro c m h
  by_cases hp : 0 ≤ p ∧ p ≤ 1
  · obtain ⟨u, hu, rfl⟩ := n_of hp (n := 1) rfl
    have u7 : f_X7_isUse (nI u) c = some 1 := by rw [us7, if_pos hp]
    have u8 : f_X8_in (nI u) 0 1 m = some 1 := by rw [win8, if_pos hp]
    obtain ⟨v, c', m', g1, g2, g3, g4, -⟩ := law_x hu (J_X h hu) a b d
    refine ⟨v, c', m', ?_, ?_, h.same (s7_43 g3) (s8_68 g4), fun a ha => g3 a (by omega) (by omega), fun a ha => g4 a (by omega) (by omega)⟩
    · unfold f_X7_law
      rw [bd1 u7, if_neg (by decide), bd1 g1]
    · unfold f_X8_law
      rw [bd1 u8, if_neg (by decide), bd1 g2]
  · have u7 : f_X7_isUse p c = some 0 := by rw [us7, if_neg hp]
    have u8 : f_X8_in p 0 1 m = some 0 := by rw [win8, if_neg hp]
    refine out_err 1 (-1000000001) h ?_ ?_
    · unfold f_X7_law
      rw [bd1 u7, if_pos rfl, bd1 (x7_e1 c)]
    · unfold f_X8_law
      rw [bd1 u8, if_pos rfl, bd1 (x8_e1 m)]
