/-! WHAT HOLDS behind the constructors. -/
theorem mk_v1 : (mk_I0 92 2 = nI 0 ∧ mk_I0 92 3 = nI 0 ∧ mk_I0 11 1 = nI 0 ∧ mk_I0 11 7 = nI 0) ∧ (mk_I0 92 0 = mk_I0 11 16 ∧ mk_I0 92 1 = mk_I0 11 17 ∧ mk_I0 92 4 = mk_I0 11 15) ∧ (mk_I0 21 2 = 1 ∧ mk_I0 22 0 = 1 ∧ mk_I0 20 2 = 0 ∧ mk_I0 20 3 = 99) ∧ (mk_I0 25 2 = 5 ∧ mk_I0 26 0 = -1 ∧ mk_I0 26 1 = 10 ∧ mk_I0 26 2 = -42 ∧ mk_I0 26 3 = -2 ∧ mk_I0 26 4 = -45 ∧ mk_I0 24 2 = -99 ∧ mk_I0 24 3 = 99) := by decide +kernel
theorem mk_v2 : (mk_I0 92 119 = 0 ∧ mk_I0 92 220 = 0) ∧ (mk_I0 28 1 = 32 ∧ mk_I0 28 2 = nI 0 ∧ mk_I0 92 5 = nI 0) ∧ (mk_I0 30 1 = 32 ∧ mk_I0 30 2 = nI 0 ∧ mk_I0 92 6 = nI 0) ∧ mk_I0 11 15 = nI 0 ∧ (mk_I0 0 9 = mk_I0 91 3 ∧ mk_I0 0 9 = 0) := by decide +kernel
theorem mk_v3 : ∀ k, k < 6 → mk_I0 90 k = mk_I0 95 k := by decide +kernel
theorem mk_v4 : mk_I0 1 1 = 32 ∧ mk_I0 1 2 = nI 0 ∧ mk_I0 91 15 = nI 0 := by decide +kernel
theorem mk_v5 : ∀ s, s < 4 → mk_I0 (80 + 2 * s) 1 = nI 0 ∧ mk_I0 101 s = nI 0 ∧ mk_I0 (80 + 2 * s) 2 = nI 0 ∧ mk_I0 102 s = nI 0 ∧ ∀ j, j < 40 → mk_I0 (81 + 2 * s) j = mk_I0 103 (40 * s + j) := by decide +kernel
theorem mk_v6 : csR mk_I0 := by unfold csR; decide +kernel
theorem mk_inv : Inv mk_I0 := by
  obtain ⟨⟨a1, a2, a3, a4⟩, ⟨b1, b2, b3⟩, ⟨c1, c2, c3, c4⟩, ⟨d1, d2, d3, d4, d5, d6, d7, d8⟩⟩ := mk_v1
  obtain ⟨⟨e1, e2⟩, ⟨f1, f2, f3⟩, ⟨g1, g2, g3⟩, h1, ⟨i1, i2⟩⟩ := mk_v2
  have l0 : hL0 (cells mk_I0 11) 0 = 1 := by show (mk_I0 21 2).toNatClampNeg = 1; rw [c1]; rfl
  have l1 : hL1 (cells mk_I0 11) 0 = 5 := by show (mk_I0 25 2).toNatClampNeg = 5; rw [d1]; rfl
  refine ⟨⟨0, 0, ?_, ?_, ?_, ?_, ?_, ⟨0, by omega, h1⟩⟩, ⟨i1, Or.inl i2⟩, mk_v3, ⟨0, by omega, mk_v4.1, mk_v4.2.1, mk_v4.2.2, fun j hj => absurd hj (by omega)⟩, fun s hs => ⟨0, 0, by omega, Or.inl rfl, (mk_v5 s hs).1, (mk_v5 s hs).2.1, (mk_v5 s hs).2.2.1, (mk_v5 s hs).2.2.2.1, (mk_v5 s hs).2.2.2.2⟩, mk_v6⟩
  · exact ⟨⟨a1, by omega, a2, by omega, a3, a4⟩, fun c hc => absurd hc (by omega), fun p hp => absurd hp (by omega), b1, b2, b3⟩
  · refine ⟨a3, by omega, fun c hc => absurd hc (by omega), ⟨?_, ⟨?_, ?_, ?_⟩, c3, c4⟩, ⟨?_, ⟨?_, ?_, ?_⟩, d7, d8⟩⟩
    · rw [l0]; exact c1
    · rw [l0]; omega
    · rw [l0]; omega
    · show ¬ mk_I0 22 0 < -3; rw [c2]; decide
    · rw [l1]; exact d1
    · rw [l1]; omega
    · rw [l1]; omega
    · show ¬ mk_I0 26 0 < -3; rw [d2]; decide
  · exact ⟨fun c hc => absurd hc (by omega), fun p hp => absurd hp (by omega), fun p q hp => absurd hp (by omega)⟩
  · exact ⟨Or.inl ⟨e1, l0, c2⟩, Or.inl ⟨e2, l1, d2, d3, d4, d5, d6⟩⟩
  · exact ⟨⟨0, by omega, f1, f2, f3, fun j hj => absurd hj (by omega)⟩, ⟨0, by omega, g1, g2, g3, fun j hj => absurd hj (by omega)⟩⟩
