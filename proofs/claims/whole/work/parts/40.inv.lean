/-! What holds between two calls: the class's house and the reference's row, told, traced, sheets, images -/
def cells (I : mm_I) (hb : Nat) : mm_I := fun k => I (hb + k)
/-- tape and what waits -/
def tpR (S : mm_I) (R : Nat → Int32) : Prop := (∃ l : Nat, l ≤ 50 ∧ S 17 1 = 32 ∧ S 17 2 = nI l ∧ R 5 = nI l ∧ ∀ j, j < l → S 18 j = R (49 + j) ∧ ∃ b : Nat, b < 256 ∧ S 18 j = nI b) ∧ (∃ l : Nat, l ≤ 20 ∧ S 19 1 = 32 ∧ S 19 2 = nI l ∧ R 6 = nI l ∧ ∀ j, j < l → S 20 j = R (99 + j))
/-- a house and a row -/
def HS (S : mm_I) (R : Nat → Int32) (nc np : Nat) : Prop := RM S (fun _ => R) nc np ∧ hOK S 0 nc ∧ sR S nc np ∧ TR S (fun _ => R) ∧ tpR S R ∧ ∃ z : Nat, z < 256 ∧ S 0 15 = nI z
theorem okS_congr {f g : Nat → Int32} : ∀ (n i m : Nat), (∀ j, i ≤ j → j < i + n → g j = f j) → okS f n i m → okS g n i m := by
  intro n
  induction n with
  | zero => intro i m _ _; trivial
  | succ n ih =>
    intro i m h ho
    unfold okS at ho ⊢
    rw [h i (Nat.le_refl _) (by omega)]
    exact ⟨ho.1, ih (i + 1) _ (fun j a b => h j (by omega) (by omega)) ho.2⟩
theorem HS_copy {S S' : mm_I} {R R' : Nat → Int32} {nc np : Nat} (H : HS S R nc np) (hr : ∀ j, j < 321 → R' j = R j) (h0 : S' 0 1 = S 0 1 ∧ S' 0 7 = S 0 7 ∧ S' 0 15 = S 0 15 ∧ S' 0 16 = S 0 16 ∧ S' 0 17 = S 0 17) (hj : ∀ j, j < 6 → S' 1 j = S 1 j ∧ S' 2 j = S 2 j ∧ S' 3 j = S 3 j ∧ S' 4 j = S 4 j ∧ S' 6 j = S 6 j ∧ S' 7 j = S 7 j ∧ S' 8 j = S 8 j)
  (h10 : S' 10 2 = S 10 2 ∧ ∀ j, j < (S 10 2).toNatClampNeg → S' 11 j = S 11 j) (h14 : S' 14 2 = S 14 2 ∧ ∀ j, j < (S 14 2).toNatClampNeg → S' 15 j = S 15 j) (h17 : S' 17 1 = S 17 1 ∧ S' 17 2 = S 17 2 ∧ ∀ j, j < (S 17 2).toNatClampNeg → S' 18 j = S 18 j) (h19 : S' 19 1 = S 19 1 ∧ S' 19 2 = S 19 2 ∧ ∀ j, j < (S 19 2).toNatClampNeg → S' 20 j = S 20 j) (h9 : S' 9 2 = 0 ∧ S' 9 3 = 99 ∧ S' 13 2 = -99 ∧ S' 13 3 = 99) : HS S' R' nc np := by
  obtain ⟨⟨⟨r1, r2, r3, r4, r5, r6⟩, rc, rp, r7, r8, r9⟩, ok, sr, tt, ⟨⟨l, tl1, tl2, tl3, tl4, tl5⟩, ⟨w, wl1, wl2, wl3, wl4, wl5⟩⟩, z, hz, ez⟩ := H
  dsimp only at r1 r3 rc rp r7 r8 r9
  obtain ⟨z1, z7, z15, z16, z17⟩ := h0
  have e0 : hL0 S' 0 = hL0 S 0 := by unfold hL0; rw [show S' (0 + 10) 2 = S (0 + 10) 2 from h10.1]
  have e1 : hL1 S' 0 = hL1 S 0 := by unfold hL1; rw [show S' (0 + 14) 2 = S (0 + 14) 2 from h14.1]
  obtain ⟨o1, o2, o3, ⟨o4, o5, o6, o7⟩, ⟨o8, o9, o10, o11⟩⟩ := ok
  have w0 : ∀ j, j < hL0 S 0 → S' 11 j = S 11 j := h10.2
  have w1 : ∀ j, j < hL1 S 0 → S' 15 j = S 15 j := h14.2
  have m0 : 1 ≤ hL0 S 0 ∧ hL0 S 0 ≤ 50 := ⟨o5.1, o5.2.1⟩
  have m1 : 1 ≤ hL1 S 0 ∧ hL1 S 0 ≤ 50 := ⟨o9.1, o9.2.1⟩
  refine ⟨⟨⟨?_, r2, ?_, r4, z1.trans r5, z7.trans r6⟩, fun c hc => ?_, fun p hp => ?_, ?_, ?_, ?_⟩, ⟨z1.trans o1, o2, fun c hc => ?_, ⟨?_, ?_, h9.1, h9.2.1⟩, ⟨?_, ?_, h9.2.2.1, h9.2.2.2⟩⟩, ⟨fun c hc => ?_, fun p hp => ?_, fun p q hp hq => ?_⟩, ⟨?_, ?_⟩, ⟨⟨l, tl1, h17.1.trans tl2, h17.2.1.trans tl3, ?_, fun j hj2 => ?_⟩, ⟨w, wl1, h19.1.trans wl2, h19.2.1.trans wl3, ?_, fun j hj2 => ?_⟩⟩, z, hz, z15.trans ez⟩
  · try dsimp only
    rw [hr 2 (by omega)]; exact r1
  · try dsimp only
    rw [hr 3 (by omega)]; exact r3
  · try dsimp only
    rw [hr _ (by omega), hr _ (by omega), hr _ (by omega), hr _ (by omega)]
    obtain ⟨a1, a2, a3, a4, -⟩ := hj c (by omega)
    rw [a1, a2, a3, a4]
    exact rc c hc
  · try dsimp only
    rw [hr _ (by omega), hr _ (by omega), hr _ (by omega)]
    obtain ⟨-, -, -, -, a1, a2, a3⟩ := hj p (by omega)
    rw [a1, a2, a3]
    exact rp p hp
  · try dsimp only
    rw [hr 0 (by omega), z16]; exact r7
  · try dsimp only
    rw [hr 1 (by omega), z17]; exact r8
  · try dsimp only
    rw [hr 4 (by omega), z15]; exact r9
  · have e : hK S' 0 c = hK S 0 c := by unfold hK; rw [show S' (0 + 1) c = S (0 + 1) c from (hj c (by omega)).1]
    rw [e, show S' (0 + 1) c = S (0 + 1) c from (hj c (by omega)).1]
    exact o3 c hc
  · rw [e0]; exact h10.1.trans o4
  · rw [e0]; exact ⟨o5.1, o5.2.1, by rw [show S' (0 + 11) 0 = S (0 + 11) 0 from w0 0 (by omega)]; exact o5.2.2⟩
  · rw [e1]; exact h14.1.trans o8
  · rw [e1]; exact ⟨o9.1, o9.2.1, by rw [show S' (0 + 15) 0 = S (0 + 15) 0 from w1 0 (by omega)]; exact o9.2.2⟩
  · obtain ⟨a1, a2, a3, a4, -⟩ := hj c (by omega)
    rw [a1, a2, a3, a4]
    exact sr.1 c hc
  · obtain ⟨-, -, -, -, a1, a2, a3⟩ := hj p (by omega)
    rw [a1, a2, a3]
    exact sr.2.1 p hp
  · obtain ⟨-, -, -, -, -, -, a3⟩ := hj p (by omega)
    obtain ⟨-, -, -, -, -, -, b3⟩ := hj q (by omega)
    rw [a3, b3]
    exact sr.2.2 p q hp hq
  · rw [e0]
    dsimp only
    rw [hr 119 (by omega)]
    rcases tt.1 with ⟨t1, t2, t3⟩ | ⟨t1, t2, t3⟩
    · exact Or.inl ⟨t1, t2, by rw [w0 0 (by omega)]; exact t3⟩
    · refine Or.inr ⟨t1, fun i hi => ?_, okS_congr _ _ _ (fun j _ hj3 => w0 j (by omega)) t3⟩
      rw [hr _ (by omega), hr _ (by omega), w0 i hi]
      exact t2 i hi
  · rw [e1]
    dsimp only
    rw [hr 220 (by omega)]
    rcases tt.2 with ⟨t1, t2, t3, t4, t5, t6, t7⟩ | ⟨t1, t2, t3⟩
    · exact Or.inl ⟨t1, t2, by rw [w1 0 (by omega)]; exact t3, by rw [w1 1 (by omega)]; exact t4, by rw [w1 2 (by omega)]; exact t5, by rw [w1 3 (by omega)]; exact t6, by rw [w1 4 (by omega)]; exact t7⟩
    · refine Or.inr ⟨t1, fun i hi => ?_, okS_congr _ _ _ (fun j _ hj3 => w1 j (by omega)) t3⟩
      rw [hr _ (by omega), hr _ (by omega), w1 i hi]
      exact t2 i hi
  · try dsimp only
    rw [hr 5 (by omega)]; exact tl4
  · try dsimp only
    rw [hr _ (by omega), h17.2.2 j (by rw [tl3, nI_clamp (by omega)]; exact hj2)]; exact tl5 j hj2
  · try dsimp only
    rw [hr 6 (by omega)]; exact wl4
  · try dsimp only
    rw [hr _ (by omega), h19.2.2 j (by rw [wl3, nI_clamp (by omega)]; exact hj2)]; exact wl5 j hj2
theorem HS_congr {S S' : mm_I} {R R' : Nat → Int32} {nc np : Nat} (h : ∀ k, k ≤ 20 → k ≠ 5 → k ≠ 12 → k ≠ 16 → S' k = S k) (hr : ∀ j, j < 321 → R' j = R j) (H : HS S R nc np) : HS S' R' nc np := by
  have ok := H.2.1
  have g : ∀ k, k ≤ 20 → k ≠ 5 → k ≠ 12 → k ≠ 16 → ∀ j, S' k j = S k j := fun k a b c e j => by rw [h k a b c e]
  refine HS_copy H hr ⟨g 0 (by decide) (by decide) (by decide) (by decide) _, g 0 (by decide) (by decide) (by decide) (by decide) _, g 0 (by decide) (by decide) (by decide) (by decide) _, g 0 (by decide) (by decide) (by decide) (by decide) _, g 0 (by decide) (by decide) (by decide) (by decide) _⟩ (fun j _ => ⟨g 1 (by decide) (by decide) (by decide) (by decide) _, g 2 (by decide) (by decide) (by decide) (by decide) _, g 3 (by decide) (by decide) (by decide) (by decide) _, g 4 (by decide) (by decide) (by decide) (by decide) _, g 6 (by decide) (by decide) (by decide) (by decide) _, g 7 (by decide) (by decide) (by decide) (by decide) _, g 8 (by decide) (by decide) (by decide) (by decide) _⟩) ⟨g 10 (by decide) (by decide) (by decide) (by decide) _, fun j _ => g 11 (by decide) (by decide) (by decide) (by decide) _⟩ ⟨g 14 (by decide) (by decide) (by decide) (by decide) _, fun j _ => g 15 (by decide) (by decide) (by decide) (by decide) _⟩ ⟨g 17 (by decide) (by decide) (by decide) (by decide) _, g 17 (by decide) (by decide) (by decide) (by decide) _, fun j _ => g 18 (by decide) (by decide) (by decide) (by decide) _⟩ ⟨g 19 (by decide) (by decide) (by decide) (by decide) _, g 19 (by decide) (by decide) (by decide) (by decide) _, fun j _ => g 20 (by decide) (by decide) (by decide) (by decide) _⟩ ⟨?_, ?_, ?_, ?_⟩
  · rw [g 9 (by decide) (by decide) (by decide) (by decide)]; exact ok.2.2.2.1.2.2.1
  · rw [g 9 (by decide) (by decide) (by decide) (by decide)]; exact ok.2.2.2.1.2.2.2
  · rw [g 13 (by decide) (by decide) (by decide) (by decide)]; exact ok.2.2.2.2.2.2.1
  · rw [g 13 (by decide) (by decide) (by decide) (by decide)]; exact ok.2.2.2.2.2.2.2
theorem HS_cy {I J : mm_I} {hb ob nc np : Nat} {R : Nat → Int32} (h : hCy I J hb ob) (h9 : I (hb + 9) 2 = 0 ∧ I (hb + 9) 3 = 99 ∧ I (hb + 13) 2 = -99 ∧ I (hb + 13) 3 = 99) (H : HS (cells I ob) R nc np) : HS (cells J hb) R nc np := by
  obtain ⟨-, h1, h2, h3, h4, h5, h6, h7, h8⟩ := h
  exact HS_copy H (fun _ _ => rfl) h1 h2 ⟨h3.2.1, h3.2.2⟩ ⟨h4.2.1, h4.2.2⟩ h5 h6 (by
    show J (hb + 9) 2 = 0 ∧ J (hb + 9) 3 = 99 ∧ J (hb + 13) 2 = -99 ∧ J (hb + 13) 3 = 99
    rw [h7, h8]; exact h9)
theorem cells_up (I : mm_I) (hb k j : Nat) (x : Int32) : cells (mm_up I (hb + k) j x) hb = mm_up (cells I hb) k j x := by
  funext k' j'
  by_cases h : k' = k
  · subst h; simp [cells, mm_up_at]
  · have h2 : ¬ hb + k' = hb + k := by omega
    simp [cells, mm_up_at, h]
theorem cells_ne {I : mm_I} {hb k j : Nat} {x : Int32} (h : k < hb ∨ hb + 20 < k) {k' : Nat} (hk : k' ≤ 20) : cells (mm_up I k j x) hb k' = cells I hb k' := by
  unfold cells
  rw [mm_up_ne _ _ _ _ _ (by omega)]
/-- a number of a chair's is changed -/
theorem HS_chair {S : mm_I} {R : Nat → Int32} {nc np c w x : Nat} (hw : w < 4) (hc : c < nc) (hx : x < (if w = 0 then 7 else if w = 1 then 10 else 256)) (H : HS S R nc np) : HS (mm_up S (1 + w) c (nI x)) (upd R (7 + 4 * c + w) (nI x)) nc np := by
  obtain ⟨⟨⟨r1, r2, r3, r4, r5, r6⟩, rc, rp, r7, r8, r9⟩, ok, sr, tt, ⟨⟨l, tl1, tl2, tl3, tl4, tl5⟩, ⟨v, wl1, wl2, wl3, wl4, wl5⟩⟩, z, hz, ez⟩ := H
  dsimp only at r1 r3 rc rp r7 r8 r9
  have hS : ∀ k, k ≠ 1 + w → mm_up S (1 + w) c (nI x) k = S k := fun k hk => mm_up_ne _ _ _ _ _ hk
  have hR : ∀ j, j ≠ 7 + 4 * c + w → upd R (7 + 4 * c + w) (nI x) j = R j := fun j hj => by simp [upd, hj]
  have hA : ∀ (k j : Nat), ¬ (k = 1 + w ∧ j = c) → mm_up S (1 + w) c (nI x) k j = S k j := fun k j h => by rw [mm_up_at, if_neg h]
  have hE : mm_up S (1 + w) c (nI x) (1 + w) c = nI x := by simp [mm_up_at]
  have hRE : upd R (7 + 4 * c + w) (nI x) (7 + 4 * c + w) = nI x := by simp [upd]
  refine ⟨⟨⟨?_, r2, ?_, r4, ?_, ?_⟩, fun c' hc' => ?_, fun p hp => ?_, ?_, ?_, ?_⟩, ?_, ⟨fun c' hc' => ?_, fun p hp => ?_, fun p q hp hq => ?_⟩, ?_, ⟨⟨l, tl1, ?_, ?_, ?_, fun j hj2 => ?_⟩, ⟨v, wl1, ?_, ?_, ?_, fun j hj2 => ?_⟩⟩, z, hz, ?_⟩
  · try dsimp only
    rw [hR _ (by omega)]; exact r1
  · try dsimp only
    rw [hR _ (by omega)]; exact r3
  · rw [hS 0 (by omega)]; exact r5
  · rw [hS 0 (by omega)]; exact r6
  · obtain ⟨a0, a1, a2, a3⟩ := rc c' hc'
    by_cases e : c' = c
    · subst e
      have f : ∀ u, u < 4 → R (7 + 4 * c' + u) = S (1 + u) c' := fun u hu => by
        rcases (show u = 0 ∨ u = 1 ∨ u = 2 ∨ u = 3 by omega) with rfl | rfl | rfl | rfl
        · exact a0
        · exact a1
        · exact a2
        · exact a3
      have g : ∀ u, u < 4 → upd R (7 + 4 * c' + w) (nI x) (7 + 4 * c' + u) = mm_up S (1 + w) c' (nI x) (1 + u) c' := fun u hu => by
        by_cases hu2 : u = w
        · subst hu2; rw [hE, hRE]
        · rw [hR _ (by omega), hA _ _ (by omega)]; exact f u hu
      exact ⟨g 0 (by omega), g 1 (by omega), g 2 (by omega), g 3 (by omega)⟩
    · try dsimp only
      rw [hR _ (by omega), hR _ (by omega), hR _ (by omega), hR _ (by omega), hA _ _ (by omega), hA _ _ (by omega), hA _ _ (by omega), hA _ _ (by omega)]
      exact ⟨a0, a1, a2, a3⟩
  · try dsimp only
    rw [hR _ (by omega), hR _ (by omega), hR _ (by omega), hS _ (by omega), hS _ (by omega), hS _ (by omega)]
    exact rp p hp
  · try dsimp only
    rw [hR _ (by omega), hS _ (by omega)]; exact r7
  · try dsimp only
    rw [hR _ (by omega), hS _ (by omega)]; exact r8
  · try dsimp only
    rw [hR _ (by omega), hS _ (by omega)]; exact r9
  · obtain ⟨o1, o2, o3, o4, o5⟩ := ok
    refine ⟨by rw [hS 0 (by omega)]; exact o1, o2, fun c' hc' => ?_, ?_, ?_⟩
    · unfold hK
      by_cases e : 0 + 1 = 1 + w ∧ c' = c
      · obtain ⟨e1, e2⟩ := e
        subst e2
        have : w = 0 := by omega
        subst this
        have hx7 : x < 7 := hx
        rw [show mm_up S (1 + 0) c' (nI x) (0 + 1) c' = nI x from hE, nI_clamp (by omega)]
        exact ⟨rfl, hx7⟩
      · rw [hA _ _ e]; exact o3 c' hc'
    · unfold hL0 at *
      rw [hS (0 + 10) (by omega), hS (0 + 11) (by omega), hS (0 + 9) (by omega)]; exact o4
    · unfold hL1 at *
      rw [hS (0 + 14) (by omega), hS (0 + 15) (by omega), hS (0 + 13) (by omega)]; exact o5
  · obtain ⟨a, b, c2, e, a1, b1, c1, e1, a2, b2, c3, e2⟩ := sr.1 c' hc'
    by_cases hcc : c' = c
    · subst hcc
      rcases (show w = 0 ∨ w = 1 ∨ w = 2 ∨ w = 3 by omega) with rfl | rfl | rfl | rfl
      · exact ⟨x, b, c2, e, hx, b1, c1, e1, hE, by rw [hA _ _ (by omega)]; exact b2, by rw [hA _ _ (by omega)]; exact c3, by rw [hA _ _ (by omega)]; exact e2⟩
      · exact ⟨a, x, c2, e, a1, hx, c1, e1, by rw [hA _ _ (by omega)]; exact a2, hE, by rw [hA _ _ (by omega)]; exact c3, by rw [hA _ _ (by omega)]; exact e2⟩
      · exact ⟨a, b, x, e, a1, b1, hx, e1, by rw [hA _ _ (by omega)]; exact a2, by rw [hA _ _ (by omega)]; exact b2, hE, by rw [hA _ _ (by omega)]; exact e2⟩
      · exact ⟨a, b, c2, x, a1, b1, c1, hx, by rw [hA _ _ (by omega)]; exact a2, by rw [hA _ _ (by omega)]; exact b2, by rw [hA _ _ (by omega)]; exact c3, hE⟩
    · rw [hA _ _ (by omega), hA _ _ (by omega), hA _ _ (by omega), hA _ _ (by omega)]
      exact ⟨a, b, c2, e, a1, b1, c1, e1, a2, b2, c3, e2⟩
  · rw [hS 6 (by omega), hS 7 (by omega), hS 8 (by omega)]; exact sr.2.1 p hp
  · rw [hS 8 (by omega)]; exact sr.2.2 p q hp hq
  · exact TR_congr2 (S := S) (I := fun _ => R) (fun j hj => hR j (by omega)) (fun k _ b1 b2 b3 b4 _ _ _ => hS k (by omega)) tt
  · rw [hS 17 (by omega)]; exact tl2
  · rw [hS 17 (by omega)]; exact tl3
  · try dsimp only
    rw [hR _ (by omega)]; exact tl4
  · rw [hS 18 (by omega), hR _ (by omega)]; exact tl5 j hj2
  · rw [hS 19 (by omega)]; exact wl2
  · rw [hS 19 (by omega)]; exact wl3
  · try dsimp only
    rw [hR _ (by omega)]; exact wl4
  · rw [hS 20 (by omega), hR _ (by omega)]; exact wl5 j hj2
  · rw [hS 0 (by omega)]; exact ez
/-- a number of a member's is changed -/
theorem HS_member {S : mm_I} {R : Nat → Int32} {nc np p w : Nat} {v : Int32} (hw : w < 3) (hp : p < np) (h0 : w = 0 → ∃ x : Nat, x < 100 ∧ v = nI x) (h1 : w = 1 → ∃ x : Nat, x < 8 ∧ v = nI x) (h2 : w = 2 → v = -1 ∨ ((∃ c, c < nc ∧ v = nI c) ∧ ∀ q, q < np → q ≠ p → S 8 q ≠ v)) (H : HS S R nc np) : HS (mm_up S (6 + w) p v) (upd R (31 + 3 * p + w) v) nc np := by
  obtain ⟨⟨⟨r1, r2, r3, r4, r5, r6⟩, rc, rp, r7, r8, r9⟩, ok, sr, tt, ⟨⟨l, tl1, tl2, tl3, tl4, tl5⟩, ⟨u, wl1, wl2, wl3, wl4, wl5⟩⟩, z, hz, ez⟩ := H
  dsimp only at r1 r3 rc rp r7 r8 r9
  have hS : ∀ k, k ≠ 6 + w → mm_up S (6 + w) p v k = S k := fun k hk => mm_up_ne _ _ _ _ _ hk
  have hR : ∀ j, j ≠ 31 + 3 * p + w → upd R (31 + 3 * p + w) v j = R j := fun j hj => by simp [upd, hj]
  have hA : ∀ (k j : Nat), ¬ (k = 6 + w ∧ j = p) → mm_up S (6 + w) p v k j = S k j := fun k j h => by rw [mm_up_at, if_neg h]
  have hE : mm_up S (6 + w) p v (6 + w) p = v := by simp [mm_up_at]
  have hRE : upd R (31 + 3 * p + w) v (31 + 3 * p + w) = v := by simp [upd]
  refine ⟨⟨⟨?_, r2, ?_, r4, ?_, ?_⟩, fun c' hc' => ?_, fun p' hp' => ?_, ?_, ?_, ?_⟩, ?_, ⟨fun c' hc' => ?_, fun p' hp' => ?_, fun p' q' hp' hq' => ?_⟩, ?_, ⟨⟨l, tl1, ?_, ?_, ?_, fun j hj2 => ?_⟩, ⟨u, wl1, ?_, ?_, ?_, fun j hj2 => ?_⟩⟩, z, hz, ?_⟩
  · try dsimp only
    rw [hR _ (by omega)]; exact r1
  · try dsimp only
    rw [hR _ (by omega)]; exact r3
  · rw [hS 0 (by omega)]; exact r5
  · rw [hS 0 (by omega)]; exact r6
  · try dsimp only
    rw [hR _ (by omega), hR _ (by omega), hR _ (by omega), hR _ (by omega), hS _ (by omega), hS _ (by omega), hS _ (by omega), hS _ (by omega)]
    exact rc c' hc'
  · obtain ⟨a0, a1, a2⟩ := rp p' hp'
    by_cases e : p' = p
    · subst e
      have f : ∀ u, u < 3 → R (31 + 3 * p' + u) = S (6 + u) p' := fun u hu => by
        rcases (show u = 0 ∨ u = 1 ∨ u = 2 by omega) with rfl | rfl | rfl
        · exact a0
        · exact a1
        · exact a2
      have g : ∀ u, u < 3 → upd R (31 + 3 * p' + w) v (31 + 3 * p' + u) = mm_up S (6 + w) p' v (6 + u) p' := fun u hu => by
        by_cases hu2 : u = w
        · subst hu2; rw [hE, hRE]
        · rw [hR _ (by omega), hA _ _ (by omega)]; exact f u hu
      exact ⟨g 0 (by omega), g 1 (by omega), g 2 (by omega)⟩
    · try dsimp only
      rw [hR _ (by omega), hR _ (by omega), hR _ (by omega), hA _ _ (by omega), hA _ _ (by omega), hA _ _ (by omega)]
      exact ⟨a0, a1, a2⟩
  · try dsimp only
    rw [hR _ (by omega), hS _ (by omega)]; exact r7
  · try dsimp only
    rw [hR _ (by omega), hS _ (by omega)]; exact r8
  · try dsimp only
    rw [hR _ (by omega), hS _ (by omega)]; exact r9
  · unfold hOK hK hL0 hL1 at *
    rw [hS 0 (by omega), hS (0 + 1) (by omega), hS (0 + 10) (by omega), hS (0 + 11) (by omega), hS (0 + 9) (by omega), hS (0 + 14) (by omega), hS (0 + 15) (by omega), hS (0 + 13) (by omega)]
    exact ok
  · rw [hS 1 (by omega), hS 2 (by omega), hS 3 (by omega), hS 4 (by omega)]
    exact sr.1 c' hc'
  · obtain ⟨a, b, a1, b1, a2, b2, a3⟩ := sr.2.1 p' hp'
    by_cases e : p' = p
    · subst e
      rcases (show w = 0 ∨ w = 1 ∨ w = 2 by omega) with rfl | rfl | rfl
      · obtain ⟨x, hx, ex⟩ := h0 rfl
        exact ⟨x, b, hx, b1, hE.trans ex, by rw [hA _ _ (by omega)]; exact b2, by rw [hA _ _ (by omega)]; exact a3⟩
      · obtain ⟨x, hx, ex⟩ := h1 rfl
        exact ⟨a, x, a1, hx, by rw [hA _ _ (by omega)]; exact a2, hE.trans ex, by rw [hA _ _ (by omega)]; exact a3⟩
      · exact ⟨a, b, a1, b1, by rw [hA _ _ (by omega)]; exact a2, by rw [hA _ _ (by omega)]; exact b2, by rw [show mm_up S (6 + 2) p' v 8 p' = v from hE]; exact (h2 rfl).imp id (fun q => q.1)⟩
    · rw [hA _ _ (by omega), hA _ _ (by omega), hA _ _ (by omega)]
      exact ⟨a, b, a1, b1, a2, b2, a3⟩
  · by_cases hw2 : w = 2
    · subst hw2
      by_cases e1 : p' = p
      · by_cases e2 : q' = p
        · intro _ _; rw [e1, e2]
        · rw [e1, show mm_up S (6 + 2) p v 8 p = v from hE, hA 8 q' (by omega)]
          intro a b
          rcases h2 rfl with z | z
          · exact absurd z b
          · exact absurd a.symm (z.2 q' hq' e2)
      · by_cases e2 : q' = p
        · rw [e2, show mm_up S (6 + 2) p v 8 p = v from hE, hA 8 p' (by omega)]
          intro a b
          rcases h2 rfl with z | z
          · rw [z] at a; exact absurd a b
          · exact absurd a (z.2 p' hp' e1)
        · rw [hA 8 p' (by omega), hA 8 q' (by omega)]
          exact sr.2.2 p' q' hp' hq'
    · rw [hS 8 (by omega)]; exact sr.2.2 p' q' hp' hq'
  · exact TR_congr2 (S := S) (I := fun _ => R) (fun j hj => hR j (by omega)) (fun k _ _ _ _ _ b1 b2 b3 => hS k (by omega)) tt
  · rw [hS 17 (by omega)]; exact tl2
  · rw [hS 17 (by omega)]; exact tl3
  · try dsimp only
    rw [hR _ (by omega)]; exact tl4
  · rw [hS 18 (by omega), hR _ (by omega)]; exact tl5 j hj2
  · rw [hS 19 (by omega)]; exact wl2
  · rw [hS 19 (by omega)]; exact wl3
  · try dsimp only
    rw [hR _ (by omega)]; exact wl4
  · rw [hS 20 (by omega), hR _ (by omega)]; exact wl5 j hj2
  · rw [hS 0 (by omega)]; exact ez
/-! the rest -/
def imR (I : mm_I) : Prop := I 0 9 = I 91 3 ∧ (I 0 9 = 0 ∨ ∃ nc np, HS (cells I 53) (I 93) nc np)
def erR (I : mm_I) : Prop := ∀ k, k < 6 → I 90 k = I 95 k
def trR (I : mm_I) : Prop := ∃ n : Nat, n ≤ 40 ∧ I 1 1 = 32 ∧ I 1 2 = nI n ∧ I 91 15 = nI n ∧ ∀ j, j < n → I 2 j = I 100 j
def shR (I : mm_I) : Prop := ∀ s, s < 4 → ∃ n b : Nat, n ≤ 40 ∧ (b = 0 ∨ b = 8 ∨ b = 16 ∨ b = 32) ∧ I (80 + 2 * s) 1 = nI b ∧ I 101 s = nI b ∧ I (80 + 2 * s) 2 = nI n ∧ I 102 s = nI n ∧ ∀ j, j < 40 → I (81 + 2 * s) j = I 103 (40 * s + j)
def csR (I : mm_I) : Prop := I 75 1 = 32 ∧ I 88 1 = 32 ∧ (I (32 + 9) 2 = 0 ∧ I (32 + 9) 3 = 99 ∧ I (32 + 13) 2 = -99 ∧ I (32 + 13) 3 = 99) ∧ (I (53 + 9) 2 = 0 ∧ I (53 + 9) 3 = 99 ∧ I (53 + 13) 2 = -99 ∧ I (53 + 13) 3 = 99)
def Inv (I : mm_I) : Prop := (∃ nc np, HS (cells I 11) (I 92) nc np) ∧ imR I ∧ erR I ∧ trR I ∧ shR I ∧ csR I
/-- all but the house is as it was -/
def nH (I J : mm_I) : Prop := ∀ k, (k < 11 ∨ k = 41 ∨ k = 45 ∨ (52 < k ∧ k < 74) ∨ k = 75 ∨ (79 < k ∧ k < 89 ∧ k ≠ 89) ∨ k = 90 ∨ k = 91 ∨ k = 93 ∨ k = 95 ∨ 99 < k) → J k = I k
theorem Inv_H {I J : mm_I} (inv : Inv I) (h : nH I J) {nc np : Nat} (hs : HS (cells J 11) (J 92) nc np) : Inv J := by
  obtain ⟨-, im, er, tr, sh, cs⟩ := inv
  refine ⟨⟨nc, np, hs⟩, ?_, ?_, ?_, ?_, ?_⟩
  · unfold imR
    rw [h 0 (by omega), h 91 (by omega), h 93 (by omega)]
    refine ⟨im.1, im.2.imp id (fun ⟨a, b, q⟩ => ⟨a, b, HS_congr (fun k hk _ _ _ => ?_) (fun _ _ => rfl) q⟩)⟩
    exact h (53 + k) (by omega)
  · unfold erR
    rw [h 90 (by omega), h 95 (by omega)]
    exact er
  · unfold trR
    rw [h 1 (by omega), h 2 (by omega), h 91 (by omega), h 100 (by omega)]
    exact tr
  · intro s hs
    rw [h (80 + 2 * s) (by omega), h (81 + 2 * s) (by omega), h 101 (by omega), h 102 (by omega), h 103 (by omega)]
    exact sh s hs
  · unfold csR
    rw [h 75 (by omega), h 88 (by omega), h (32 + 9) (by omega), h (32 + 13) (by omega), h (53 + 9) (by omega), h (53 + 13) (by omega)]
    exact cs
theorem nH_tr {I J K : mm_I} (a : nH I J) (b : nH J K) : nH I K := fun k h => (b k h).trans (a k h)
theorem nH_rf (I : mm_I) : nH I I := fun _ _ => rfl
/-- nothing of it is changed -/
theorem Inv_0 {I J : mm_I} (inv : Inv I) (h : nH I J) (h2 : ∀ k, k ≤ 20 → k ≠ 5 → k ≠ 12 → k ≠ 16 → J (11 + k) = I (11 + k)) (h3 : ∀ j, j < 321 → J 92 j = I 92 j) : Inv J := by
  obtain ⟨nc, np, hs⟩ := inv.1
  exact Inv_H inv h (HS_congr h2 h3 hs)
theorem Inv_e {I : mm_I} {k : Nat} {x y : Int32} (hx : x = I 90 k + 1) (hy : y = I 95 k + 1) (inv : Inv I) : Inv (mm_up (mm_up I 90 k x) 95 k y) := by
  obtain ⟨⟨nc, np, hs⟩, ⟨im1, im2⟩, er, tr, sh, cs⟩ := inv
  refine ⟨⟨nc, np, hs⟩, ⟨im1, im2⟩, fun j hj => ?_, tr, fun s hs2 => ?_, cs⟩
  · rw [mm_up_ne _ _ _ _ _ (show (90 : Nat) ≠ 95 by decide), mm_up_at, mm_up_at, mm_up_ne _ _ _ _ _ (show (95 : Nat) ≠ 90 by decide), hx, hy]
    have e := er j hj
    by_cases h : j = k
    · subst h; simp [e]
    · simp [h, e]
  · have q : ∀ k', k' ≠ 90 → k' ≠ 95 → mm_up (mm_up I 90 k x) 95 k y k' = I k' := fun k' a b => by rw [mm_up_ne _ _ _ _ _ b, mm_up_ne _ _ _ _ _ a]
    rw [q (80 + 2 * s) (by omega) (by omega), q (81 + 2 * s) (by omega) (by omega), q 101 (by omega) (by omega), q 102 (by omega) (by omega), q 103 (by omega) (by omega)]
    exact sh s hs2
