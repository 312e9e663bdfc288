-- ===== the beginning =====
def m_0 : bv_Mem := bv_up cm_69 43 0 44
theorem i_W : bt_W 1 m_0 := by
  have h1 : m_0 1 2 = nI 0 ∧ m_0 1 4 = nI 0 ∧ m_0 1 5 = nI 0 ∧ m_0 7 1 = nI 0 ∧ m_0 1 11 = nI 0 := by decide +kernel
  have h2 : ∀ i, i < 5 → m_0 5 i = nI 0 := by decide +kernel
  have h3 : ∀ i, i < 20 → m_0 3 i = nI 5 := by decide +kernel
  have h4 : ∀ i, i < 20 → m_0 4 i = nI 0 := by decide +kernel
  have h5 : ∀ b, b < 8 → m_0 (1 + 13 + b) 0 = nI 0 ∧ m_0 (1 + 13 + b) 1 = nI 0 ∧ m_0 (1 + 13 + b) 2 = nI 0 ∧ m_0 (1 + 13 + b) 3 = nI 0 ∧ m_0 (1 + 13 + b) 4 = nI 0 ∧ m_0 (1 + 13 + b) 5 = nI 0 := by decide +kernel
  have h6 : ∀ i, i < 50 → (m_0 8 i).toInt8.toInt32 = m_0 8 i ∧ (m_0 10 i).toInt8.toInt32 = m_0 10 i ∧ (m_0 12 i).toInt8.toInt32 = m_0 12 i := by decide +kernel
  exact ⟨⟨⟨0, by omega, h1.1⟩, ⟨0, by omega, h1.2.1⟩, ⟨0, by omega, h1.2.2.1⟩, ⟨0, by omega, h1.2.2.2.1⟩, ⟨0, by omega, h1.2.2.2.2⟩⟩, fun i hi => ⟨0, by omega, h2 i hi⟩, fun i hi => ⟨5, by omega, h3 i hi⟩, fun i hi => ⟨0, by omega, h4 i hi⟩, fun b hb => ⟨⟨0, by omega, (h5 b hb).1⟩, ⟨0, by omega, (h5 b hb).2.1⟩, ⟨0, by omega, (h5 b hb).2.2.1⟩, ⟨0, by omega, (h5 b hb).2.2.2.1⟩, ⟨0, by omega, (h5 b hb).2.2.2.2.1⟩, ⟨0, by omega, (h5 b hb).2.2.2.2.2⟩⟩, fun i hi => h6 i hi⟩
theorem i_R : bt_R 1 62 m_0 m_0 := by
  have h1 : m_0 62 0 = m_0 1 5 ∧ m_0 62 1 = m_0 1 6 ∧ m_0 62 2 = m_0 1 2 ∧ m_0 62 3 = m_0 1 4 ∧ m_0 62 4 = m_0 (1 + 6) 1 ∧ m_0 62 5 = m_0 1 11 := by decide +kernel
  have h2 : ∀ i, i < 5 → m_0 62 (6 + i) = m_0 (1 + 4) i := by decide +kernel
  have h3 : ∀ i, i < 20 → m_0 62 (11 + i) = m_0 (1 + 2) i := by decide +kernel
  have h4 : ∀ i, i < 20 → m_0 62 (31 + i) = m_0 (1 + 3) i := by decide +kernel
  have h5 : ∀ b, b < 8 → ∀ k, k < 6 → m_0 62 (51 + 6 * b + k) = m_0 (1 + 13 + b) k := by decide +kernel
  have h6 : ∀ i, i < 50 → m_0 62 (99 + i) = m_0 (1 + 7) i &&& 255 := by decide +kernel
  have h7 : ∀ i, i < 20 → m_0 62 (149 + i) = m_0 (1 + 12) i := by decide +kernel
  have h8 : m_0 (1 + 8) 1 = nI 0 ∧ m_0 62 169 = 0 ∧ m_0 (1 + 10) 1 = nI 0 ∧ m_0 62 270 = 0 := by decide +kernel
  exact ⟨h1, h2, h3, h4, h5, h6, h7, ⟨0, by omega, h8.1, Or.inl ⟨rfl, h8.2.1⟩⟩, ⟨0, by omega, h8.2.2.1, Or.inl ⟨rfl, h8.2.2.2⟩⟩⟩
theorem i_S : bt_S m_0 m_0 := by
  have h1 : ∀ s, s < 4 → m_0 71 s = m_0 (53 + 2 * s) 0 ∧ m_0 72 s = m_0 (53 + 2 * s) 1 ∧ m_0 (53 + 2 * s) 0 = 0 ∧ m_0 (53 + 2 * s) 1 = nI 0 := by decide +kernel
  have h2 : ∀ s, s < 4 → ∀ i, i < 40 → m_0 (54 + 2 * s) i = m_0 73 (40 * s + i) := by decide +kernel
  intro s hs
  obtain ⟨a1, a2, a3, a4⟩ := h1 s hs
  exact ⟨a1, a2, Or.inl a3, ⟨0, by omega, a4⟩, fun i hi => Or.inl (h2 s hs i hi)⟩
theorem i_V : bt_V m_0 m_0 := by
  have h1 : m_0 61 15 = m_0 47 1 ∧ m_0 47 1 = nI 0 := by decide +kernel
  have h2 : ∀ i, i < 40 → m_0 70 i = m_0 48 i := by decide +kernel
  exact ⟨h1.1, ⟨0, by omega, h1.2⟩, h2⟩
theorem i_0 : bv_I (bv_up cm_69 43 0 44) := by
  show bv_J m_0 m_0
  have h1 : m_0 61 3 = m_0 0 2 ∧ m_0 0 2 = 0 := by decide +kernel
  have h2 : ∀ k, k < 6 → m_0 65 k = m_0 50 k := by decide +kernel
  exact ⟨⟨i_W, i_R⟩, ⟨h1.1, fun q => absurd h1.2 q⟩, h2, i_S, i_V⟩
