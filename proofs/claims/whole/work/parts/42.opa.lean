/-! Calls on chairs and members -/
theorem wB_le {hi : Nat} {v : Int32} (hn : hi < 1000) (h : wB 0 (nI hi) v = true) : ∃ x : Nat, x ≤ hi ∧ v = nI x := by
  simp only [wB, Bool.and_eq_true, decide_eq_true_eq] at h
  have h1 : ¬ v < 0 := Int32.not_lt.mpr h.1
  obtain ⟨j, hj, rfl⟩ := nI_of h1
  refine ⟨j, ?_, rfl⟩
  have h2 := Int32.le_iff_toInt_le.mp h.2
  rw [nI_toInt hj, nI_toInt (by omega)] at h2
  omega
theorem km_dm : ∀ x : Fin 70, nI x.val / 10 = nI (x.val / 10) ∧ nI x.val - nI x.val / 10 * 10 = nI (x.val % 10) := by decide +kernel
theorem n01 {w : Nat} (h : w ≤ 1) (h1 : nI w = 0) : w = 0 := (nI_eq (by omega) (show (0 : Nat) < 2 ^ 31 by omega)).mp h1
theorem n11 {w : Nat} (h : w ≤ 1) (h1 : ¬ nI w = 0) : w = 1 := by
  rcases (show w = 0 ∨ w = 1 by omega) with rfl | rfl
  · exact absurd rfl h1
  · rfl
theorem idxS (c w : Nat) : (7 : Int32) + 4 * nI c + 2 + nI w = nI (7 + 4 * c + (2 + w)) := by
  rw [show (2 : Int32) = nI 2 from rfl, idx4, nI_add, Nat.add_assoc]
theorem idx40 (c : Nat) : (7 : Int32) + 4 * nI c = nI (7 + 4 * c) := by
  have z := idx4 c 0
  rw [show nI 0 = (0 : Int32) from rfl, Int32.add_zero] at z
  exact z
theorem Inv_up1 {I : mm_I} {j r nc np : Nat} {x v : Int32} (k : Nat) (hk : k ≤ 20) (inv : Inv I) (H : HS (mm_up (cells I 11) k j x) (upd (I 92) r v) nc np) : Inv (mm_up (mm_up I (11 + k) j x) 92 r v) := by
  refine Inv_H inv (fun k' hk' => ?_) (HS_congr (fun k' hk' _ _ _ => ?_) (fun j' hj' => ?_) H)
  · rw [mm_up_ne _ _ _ _ _ (by omega), mm_up_ne _ _ _ _ _ (by omega)]
  · rw [← cells_up]
    exact cells_ne (Or.inr (by omega)) hk'
  · rw [mm_up_at]
    by_cases e : j' = r
    · simp [upd, e]
    · rw [if_neg (fun z => e z.2), mm_up_ne _ _ _ _ _ (by omega)]
      simp [upd, e]
theorem TR_congr3 {S S' : mm_I} {R R' : Nat → Int32} (h : ∀ j, 119 ≤ j → R' j = R j) (e10 : S' 10 = S 10) (e11 : S' 11 = S 11) (e14 : S' 14 = S 14) (e15 : S' 15 = S 15) (t : TR S (fun _ => R)) : TR S' (fun _ => R') := by
  have l0 : hL0 S' 0 = hL0 S 0 := by unfold hL0; rw [show S' (0 + 10) = S (0 + 10) from e10]
  have l1 : hL1 S' 0 = hL1 S 0 := by unfold hL1; rw [show S' (0 + 14) = S (0 + 14) from e14]
  unfold TR at *
  dsimp only at *
  rw [l0, l1, e11, e15, h 119 (by omega), h 220 (by omega)]
  refine ⟨t.1.elim Or.inl (fun z => Or.inr ⟨z.1, fun i hi => ?_, z.2.2⟩), t.2.elim Or.inl (fun z => Or.inr ⟨z.1, fun i hi => ?_, z.2.2⟩)⟩
  · rw [h _ (by omega), h _ (by omega)]
    exact z.2.1 i hi
  · rw [h _ (by omega), h _ (by omega)]
    exact z.2.1 i hi
theorem HS_addC {S S' : mm_I} {R R' : Nat → Int32} {nc np k m v : Nat} (H : HS S R nc np) (hn : nc < 6) (hk : k < 7) (hm : m < 10) (hv : v < 256) (h0 : S' 0 1 = nI (nc + 1)) (h0' : ∀ j, j ≠ 1 → S' 0 j = S 0 j) (hS : ∀ q j, q ≤ 20 → q ≠ 0 → ¬ (1 ≤ q ∧ q ≤ 4 ∧ j = nc) → S' q j = S q j) (h1 : S' 1 nc = nI k) (h2 : S' 2 nc = nI m) (h3 : S' 3 nc = nI v) (h4 : S' 4 nc = nI 0) (r0 : R' 2 = nI (nc + 1)) (r1 : R' (7 + 4 * nc) = nI k) (r2 : R' (7 + 4 * nc + 1) = nI m) (r3 : R' (7 + 4 * nc + 2) = nI v) (r4 : R' (7 + 4 * nc + 3) = nI 0) (hR : ∀ j, j ≠ 2 → ¬ (7 + 4 * nc ≤ j ∧ j ≤ 7 + 4 * nc + 3) → R' j = R j) : HS S' R' (nc + 1) np := by
  obtain ⟨⟨⟨q1, q2, q3, q4, q5, q6⟩, rc, rp, q7, q8, q9⟩, ok, sr, tt, ⟨⟨l, tl1, tl2, tl3, tl4, tl5⟩, ⟨u, wl1, wl2, wl3, wl4, wl5⟩⟩, z, hz, ez⟩ := H
  dsimp only at q1 q3 rc rp q7 q8 q9
  have hF : ∀ q, q ≤ 20 ∧ q ≠ 0 → ¬ (1 ≤ q ∧ q ≤ 4) → S' q = S q := fun q a b => funext fun j => hS q j a.1 a.2 (fun w => b ⟨w.1, w.2.1⟩)
  refine ⟨⟨⟨r0, by omega, ?_, q4, h0, ?_⟩, fun c hc => ?_, fun p hp => ?_, ?_, ?_, ?_⟩, ?_, ⟨fun c hc => ?_, fun p hp => ?_, fun p q hp hq => ?_⟩, ?_, ⟨⟨l, tl1, ?_, ?_, ?_, fun j hj2 => ?_⟩, ⟨u, wl1, ?_, ?_, ?_, fun j hj2 => ?_⟩⟩, z, hz, ?_⟩
  · dsimp only; rw [hR 3 (by omega) (by omega)]; exact q3
  · rw [h0' _ (by decide)]; exact q6
  · dsimp only
    by_cases e : c = nc
    · subst e; exact ⟨r1.trans h1.symm, r2.trans h2.symm, r3.trans h3.symm, r4.trans h4.symm⟩
    · rw [hR _ (by omega) (by omega), hR _ (by omega) (by omega), hR _ (by omega) (by omega), hR _ (by omega) (by omega), hS _ _ (by omega) (by omega) (by omega), hS _ _ (by omega) (by omega) (by omega), hS _ _ (by omega) (by omega) (by omega), hS _ _ (by omega) (by omega) (by omega)]
      exact rc c (by omega)
  · dsimp only
    rw [hR _ (by omega) (by omega), hR _ (by omega) (by omega), hR _ (by omega) (by omega), hF 6 (by omega) (by omega), hF 7 (by omega) (by omega), hF 8 (by omega) (by omega)]
    exact rp p hp
  · dsimp only; rw [hR _ (by omega) (by omega), h0' _ (by decide)]; exact q7
  · dsimp only; rw [hR _ (by omega) (by omega), h0' _ (by decide)]; exact q8
  · dsimp only; rw [hR _ (by omega) (by omega), h0' _ (by decide)]; exact q9
  · obtain ⟨o1, o2, o3, o4, o5⟩ := ok
    refine ⟨h0, by omega, fun c hc => ?_, ?_, ?_⟩
    · unfold hK
      by_cases e : c = nc
      · subst e
        rw [show S' (0 + 1) c = nI k from h1, nI_clamp (by omega)]
        exact ⟨rfl, hk⟩
      · rw [hS (0 + 1) c (by omega) (by omega) (by omega)]; exact o3 c (by omega)
    · unfold hL0 at *
      rw [hF (0 + 10) (by omega) (by omega), hF (0 + 11) (by omega) (by omega), hF (0 + 9) (by omega) (by omega)]; exact o4
    · unfold hL1 at *
      rw [hF (0 + 14) (by omega) (by omega), hF (0 + 15) (by omega) (by omega), hF (0 + 13) (by omega) (by omega)]; exact o5
  · by_cases e : c = nc
    · subst e; exact ⟨k, m, v, 0, hk, hm, hv, by omega, h1, h2, h3, h4⟩
    · rw [hS _ _ (by omega) (by omega) (by omega), hS _ _ (by omega) (by omega) (by omega), hS _ _ (by omega) (by omega) (by omega), hS _ _ (by omega) (by omega) (by omega)]
      exact sr.1 c (by omega)
  · rw [hF 6 (by omega) (by omega), hF 7 (by omega) (by omega), hF 8 (by omega) (by omega)]
    obtain ⟨a, b, a1, b1, a2, b2, a3⟩ := sr.2.1 p hp
    exact ⟨a, b, a1, b1, a2, b2, a3.imp id (fun ⟨c, hc, e⟩ => ⟨c, by omega, e⟩)⟩
  · rw [hF 8 (by omega) (by omega)]; exact sr.2.2 p q hp hq
  · exact TR_congr3 (fun j hj => hR j (by omega) (by omega)) (hF 10 (by omega) (by omega)) (hF 11 (by omega) (by omega)) (hF 14 (by omega) (by omega)) (hF 15 (by omega) (by omega)) tt
  · rw [hF 17 (by omega) (by omega)]; exact tl2
  · rw [hF 17 (by omega) (by omega)]; exact tl3
  · rw [hR _ (by omega) (by omega)]; exact tl4
  · rw [hF 18 (by omega) (by omega), hR _ (by omega) (by omega)]; exact tl5 j hj2
  · rw [hF 19 (by omega) (by omega)]; exact wl2
  · rw [hF 19 (by omega) (by omega)]; exact wl3
  · rw [hR _ (by omega) (by omega)]; exact wl4
  · rw [hF 20 (by omega) (by omega), hR _ (by omega) (by omega)]; exact wl5 j hj2
  · rw [h0' _ (by decide)]; exact ez
theorem HS_addM {S S' : mm_I} {R R' : Nat → Int32} {nc np s h : Nat} (H : HS S R nc np) (hn : np < 6) (hs : s < 100) (hh : h < 8) (h0 : S' 0 7 = nI (np + 1)) (h0' : ∀ j, j ≠ 7 → S' 0 j = S 0 j) (hS : ∀ q j, q ≤ 20 → q ≠ 0 → ¬ (6 ≤ q ∧ q ≤ 8 ∧ j = np) → S' q j = S q j) (h1 : S' 6 np = nI s) (h2 : S' 7 np = nI h) (h3 : S' 8 np = -1) (r0 : R' 3 = nI (np + 1)) (r1 : R' (31 + 3 * np) = nI s) (r2 : R' (31 + 3 * np + 1) = nI h) (r3 : R' (31 + 3 * np + 2) = -1) (hR : ∀ j, j ≠ 3 → ¬ (31 + 3 * np ≤ j ∧ j ≤ 31 + 3 * np + 2) → R' j = R j) : HS S' R' nc (np + 1) := by
  obtain ⟨⟨⟨q1, q2, q3, q4, q5, q6⟩, rc, rp, q7, q8, q9⟩, ok, sr, tt, ⟨⟨l, tl1, tl2, tl3, tl4, tl5⟩, ⟨u, wl1, wl2, wl3, wl4, wl5⟩⟩, z, hz, ez⟩ := H
  dsimp only at q1 q3 rc rp q7 q8 q9
  have hF : ∀ q, q ≤ 20 ∧ q ≠ 0 → ¬ (6 ≤ q ∧ q ≤ 8) → S' q = S q := fun q a b => funext fun j => hS q j a.1 a.2 (fun w => b ⟨w.1, w.2.1⟩)
  refine ⟨⟨⟨?_, q2, r0, by omega, ?_, h0⟩, fun c hc => ?_, fun p hp => ?_, ?_, ?_, ?_⟩, ?_, ⟨fun c hc => ?_, fun p hp => ?_, fun p q hp hq => ?_⟩, ?_, ⟨⟨l, tl1, ?_, ?_, ?_, fun j hj2 => ?_⟩, ⟨u, wl1, ?_, ?_, ?_, fun j hj2 => ?_⟩⟩, z, hz, ?_⟩
  · dsimp only; rw [hR 2 (by omega) (by omega)]; exact q1
  · rw [h0' _ (by decide)]; exact q5
  · dsimp only
    rw [hR _ (by omega) (by omega), hR _ (by omega) (by omega), hR _ (by omega) (by omega), hR _ (by omega) (by omega), hF 1 (by omega) (by omega), hF 2 (by omega) (by omega), hF 3 (by omega) (by omega), hF 4 (by omega) (by omega)]
    exact rc c hc
  · dsimp only
    by_cases e : p = np
    · subst e; exact ⟨r1.trans h1.symm, r2.trans h2.symm, r3.trans h3.symm⟩
    · rw [hR _ (by omega) (by omega), hR _ (by omega) (by omega), hR _ (by omega) (by omega), hS _ _ (by omega) (by omega) (by omega), hS _ _ (by omega) (by omega) (by omega), hS _ _ (by omega) (by omega) (by omega)]
      exact rp p (by omega)
  · dsimp only; rw [hR _ (by omega) (by omega), h0' _ (by decide)]; exact q7
  · dsimp only; rw [hR _ (by omega) (by omega), h0' _ (by decide)]; exact q8
  · dsimp only; rw [hR _ (by omega) (by omega), h0' _ (by decide)]; exact q9
  · unfold hOK hK hL0 hL1 at *
    rw [h0' 1 (by decide), hF (0 + 1) (by omega) (by omega), hF (0 + 10) (by omega) (by omega), hF (0 + 11) (by omega) (by omega), hF (0 + 9) (by omega) (by omega), hF (0 + 14) (by omega) (by omega), hF (0 + 15) (by omega) (by omega), hF (0 + 13) (by omega) (by omega)]
    exact ok
  · rw [hF 1 (by omega) (by omega), hF 2 (by omega) (by omega), hF 3 (by omega) (by omega), hF 4 (by omega) (by omega)]
    exact sr.1 c hc
  · by_cases e : p = np
    · subst e; exact ⟨s, h, hs, hh, h1, h2, Or.inl h3⟩
    · rw [hS _ _ (by omega) (by omega) (by omega), hS _ _ (by omega) (by omega) (by omega), hS _ _ (by omega) (by omega) (by omega)]
      exact sr.2.1 p (by omega)
  · by_cases e : p = np
    · intro _ b
      rw [e, h3] at b
      exact absurd rfl b
    · by_cases e2 : q = np
      · intro a b
        rw [a, e2, h3] at b
        exact absurd rfl b
      · rw [hS 8 p (by omega) (by omega) (by omega), hS 8 q (by omega) (by omega) (by omega)]
        exact sr.2.2 p q (by omega) (by omega)
  · exact TR_congr3 (fun j hj => hR j (by omega) (by omega)) (hF 10 (by omega) (by omega)) (hF 11 (by omega) (by omega)) (hF 14 (by omega) (by omega)) (hF 15 (by omega) (by omega)) tt
  · rw [hF 17 (by omega) (by omega)]; exact tl2
  · rw [hF 17 (by omega) (by omega)]; exact tl3
  · rw [hR _ (by omega) (by omega)]; exact tl4
  · rw [hF 18 (by omega) (by omega), hR _ (by omega) (by omega)]; exact tl5 j hj2
  · rw [hF 19 (by omega) (by omega)]; exact wl2
  · rw [hF 19 (by omega) (by omega)]; exact wl3
  · rw [hR _ (by omega) (by omega)]; exact wl4
  · rw [hF 20 (by omega) (by omega), hR _ (by omega) (by omega)]; exact wl5 j hj2
  · rw [h0' _ (by decide)]; exact ez
theorem HS_z {S : mm_I} {R : Nat → Int32} {nc np : Nat} {v : Int32} (H : HS S R nc np) : HS (mm_up S 0 17 v) (upd R 1 v) nc np := by
  obtain ⟨⟨⟨q1, q2, q3, q4, q5, q6⟩, rc, rp, q7, q8, q9⟩, ok, sr, tt, ⟨⟨l, tl1, tl2, tl3, tl4, tl5⟩, ⟨u, wl1, wl2, wl3, wl4, wl5⟩⟩, z, hz, ez⟩ := H
  dsimp only at q1 q3 rc rp q7 q8 q9
  have hS : ∀ k, k ≠ 0 → mm_up S 0 17 v k = S k := fun k hk => mm_up_ne _ _ _ _ _ hk
  have h0 : ∀ j, j ≠ 17 → mm_up S 0 17 v 0 j = S 0 j := fun j hj => by rw [mm_up_at, if_neg (fun z => hj z.2)]
  have hR : ∀ j, j ≠ 1 → upd R 1 v j = R j := fun j hj => by simp [upd, hj]
  refine ⟨⟨⟨(hR 2 (by decide)).trans q1, q2, (hR 3 (by decide)).trans q3, q4, (h0 1 (by decide)).trans q5, (h0 7 (by decide)).trans q6⟩, fun c hc => ?_, fun p hp => ?_, ?_, ?_, ?_⟩, ?_, sr, ?_, ⟨⟨l, tl1, tl2, tl3, (hR 5 (by decide)).trans tl4, fun j hj2 => ?_⟩, ⟨u, wl1, wl2, wl3, (hR 6 (by decide)).trans wl4, fun j hj2 => ?_⟩⟩, z, hz, (h0 15 (by decide)).trans ez⟩
  · dsimp only
    rw [hR _ (by omega), hR _ (by omega), hR _ (by omega), hR _ (by omega)]
    exact rc c hc
  · dsimp only
    rw [hR _ (by omega), hR _ (by omega), hR _ (by omega)]
    exact rp p hp
  · dsimp only; rw [hR _ (by omega), h0 _ (by decide)]; exact q7
  · dsimp only; simp [upd, mm_up_at]
  · dsimp only; rw [hR _ (by omega), h0 _ (by decide)]; exact q9
  · exact ⟨(h0 1 (by decide)).trans ok.1, ok.2⟩
  · exact TR_congr2 (S := S) (I := fun _ => R) (fun j hj => hR j (by omega)) (fun q a _ _ _ _ _ _ _ => hS q a) tt
  · rw [hR _ (by omega)]; exact tl5 j hj2
  · rw [hR _ (by omega)]; exact wl5 j hj2
theorem hSt_spec {S : mm_I} {np : Nat} {c : Int32} : (hSt S 0 np c = -1 ∧ ∀ q, q < np → S 8 q ≠ c) ∨ ∃ q : Nat, q < np ∧ hSt S 0 np c = nI q ∧ S 8 q = c := by
  have key : ∀ (n i : Nat), i + n = np → (fnd (fun p => decide (S (0 + 8) p = c)) n i = none ∧ ∀ q, i ≤ q → q < np → S 8 q ≠ c) ∨ ∃ q : Nat, q < np ∧ fnd (fun p => decide (S (0 + 8) p = c)) n i = some q ∧ S 8 q = c := by
    intro n
    induction n with
    | zero => intro i hi; exact Or.inl ⟨rfl, fun q a b => absurd b (by omega)⟩
    | succ n ih =>
      intro i hi
      unfold fnd
      by_cases h : S (0 + 8) i = c
      · rw [if_pos (decide_eq_true h)]
        exact Or.inr ⟨i, by omega, rfl, h⟩
      · rw [if_neg (by simpa using h)]
        rcases ih (i + 1) (by omega) with ⟨h1, h2⟩ | h1
        · refine Or.inl ⟨h1, fun q a b => ?_⟩
          by_cases e : q = i
          · rw [e]; exact h
          · exact h2 q (by omega) b
        · exact Or.inr h1
  unfold hSt
  rcases key np 0 (by omega) with ⟨h1, h2⟩ | ⟨q, h1, h2, h3⟩
  · rw [h1]; exact Or.inl ⟨rfl, fun q hq => h2 q (Nat.zero_le _) hq⟩
  · rw [h2]; exact Or.inr ⟨q, h1, rfl, h3⟩
/-- CV.chair -/
theorem op_chair {X : Nat × (Nat → Int32)} {d : Nat} {I : mm_I} {P : Int32 → mm_I → Prop} {a : Int32} {b : Int32} (inv : Inv I) (hQ : ∀ v J, mm_Ev mm_T0 X (d + 60) 160 0 (mm_ent 160 [.ref 91, .int a, .int b]) [] J (mm_pi fun w K => w = v ∧ Inv K) → P v J) : mm_Ev mm_T0 X (d + 60) 76 0 (mm_ent 76 [.ref 0, .int a, .int b]) [] I (mm_pi P) := by
  show mm_Ev mm_T0 X (d + 60) 76 0 [.ref 0, .int a, .int b] [] I (mm_pi P)
  obtain ⟨nc, np, hs⟩ := inv.1
  obtain ⟨c1, n6, p1, p6, rc, rp, rm, ok, sr, tt⟩ := hsF hs
  have t0 := tCV
  have tm := tM
  have tr := tR
  refine ev_ild1 k76_0 ?_
  refine ev_cS1i k76_1 cs_172 rfl rfl rfl ?_
  refine sp_isKindAndNumber ?_
  refine ev_ifz_eq k76_4 (fun h4 => ?_) (fun h4 => ?_)
  ·
    refine ev_ald0 k76_14 ?_
    refine ev_ldc k76_15 ?_
    refine ev_cV2i k76_17 cs_174 (by first | assumption | rfl) (by omega) (Nat.le_of_ble_eq_true rfl) rfl rfl rfl ?_
    refine sp_error (k := 1) (by decide) (by decide) (by decide) ?_
    refine ev_ri k76_20 rfl ?_
    refine hQ _ _ ?_
    show mm_Ev mm_T0 X (d + 60) 160 0 [.ref 91, .int _, .int _, .retAddr 0] [] _ (mm_pi _)
    refine ev_ild1 k160_0 ?_
    refine ev_cS1i k160_1 cs_237 rfl rfl rfl ?_
    refine sm_isKm ?_
    refine ev_ifz_eq k160_4 (fun g4 => ?_) (fun g4 => Bool.noConfusion (Eq.trans (Eq.symm h4) g4))
    refine ev_ald0 k160_18 ?_
    refine ev_ldc k160_19 ?_
    refine ev_cV2i k160_21 cs_238 (by first | assumption | rfl) (by omega) (Nat.le_of_ble_eq_true rfl) rfl rfl rfl ?_
    refine sm_error (k := 1) (by decide) (by decide) ?_
    refine ev_ri k160_24 rfl ?_
    first | exact ⟨rfl, Inv_e rfl rfl inv⟩ | exact ⟨rfl, inv⟩
  ·
    refine ev_ild2 k76_7 ?_
    refine ev_cS1i k76_8 cs_173 rfl rfl rfl ?_
    refine sp_isSetOfBills ?_
    refine ev_ifz_ne k76_11 (fun h11 => ?_) (fun h11 => ?_)
    ·
      obtain ⟨x, hx, rfl⟩ := wB_le (hi := 69) (by omega) h4
      obtain ⟨e1, e2⟩ := km_dm ⟨x, by omega⟩
      dsimp only at e1 e2
      obtain ⟨v, hv, rfl⟩ := wB_le (hi := 255) (by omega) h11
      refine ev_ald0 k76_21 ?_
      refine ev_getr k76_22 (by first | assumption | rfl) rfl rfl rfl ?_
      refine ev_gfv (j := 1) k76_25 (by first | assumption | rfl) rfl rfl rfl rfl c1 ?_
      refine ev_bipush k76_28 ?_
      refine ev_icmp_lt k76_30 (fun h30 => ?_) (fun h30 => ?_)
      ·
        have hn6 : nc < 6 := (nI_ltI (show nc < 2 ^ 31 by omega) (show 6 < 2 ^ 31 by omega)).mp h30
        refine ev_ald0 k76_40 ?_
        refine ev_getr k76_41 (by first | assumption | rfl) rfl rfl rfl ?_
        refine ev_ild1 k76_44 ?_
        refine ev_ild2 k76_45 ?_
        refine ev_cV3i k76_46 cs_175 (by first | assumption | rfl) (by omega) (Nat.le_of_ble_eq_true rfl) rfl rfl rfl ?_
        refine sp_addChair (p := nc) hh11 (by assumption) hn6 ?_
        refine ev_ri k76_49 rfl ?_
        refine hQ _ _ ?_
        show mm_Ev mm_T0 X (d + 60) 160 0 [.ref 91, .int _, .int _, .retAddr 0] [] _ (mm_pi _)
        refine ev_ild1 k160_0 ?_
        refine ev_cS1i k160_1 cs_237 rfl rfl rfl ?_
        refine sm_isKm ?_
        refine ev_ifz_eq k160_4 (fun g4 => Bool.noConfusion (Eq.trans (Eq.symm h4) g4)) (fun g4 => ?_)
        refine ev_ild2 k160_7 ?_
        refine ev_iconst k160_8 ?_
        refine ev_sipush k160_9 ?_
        refine ev_cS3i k160_12 cs_224 rfl rfl rfl ?_
        refine sp_in ?_
        refine ev_ifz_ne k160_15 (fun g15 => ?_) (fun g15 => Bool.noConfusion (Eq.trans (Eq.symm h11) g15))
        refine ev_ald0 k160_25 ?_
        refine ev_getr k160_26 (by first | assumption | rfl) rfl rfl rfl ?_
        refine ev_iconst k160_29 ?_
        refine ev_ialv (j := 2) k160_30 (by first | assumption | rfl) (by omega) rfl (vp_dec rfl) rc ?_
        refine ev_ist3 k160_31 rfl ?_
        refine ev_ild3 k160_32 ?_
        refine ev_bipush k160_33 ?_
        refine ev_icmp_ne k160_35 (fun g35 => ?_) (fun g35 => absurd g35 (fun z => by rw [(nI_eq (show nc < 2 ^ 31 by omega) (show 6 < 2 ^ 31 by omega)).mp z] at hn6; exact absurd hn6 (by decide)))
        refine ev_ald0 k160_45 ?_
        refine ev_getr k160_46 (by first | assumption | rfl) rfl rfl rfl ?_
        refine ev_iconst k160_49 ?_
        refine ev_dup2 k160_50 rfl rfl ?_
        refine ev_ialv (j := 2) k160_51 (by first | assumption | rfl) (by omega) rfl (vp_dec rfl) rc ?_
        refine ev_iconst k160_52 ?_
        refine ev_iadd k160_53 ?_
        refine ev_ias (j := 2) k160_54 (by first | assumption | rfl) rfl (vp_dec rfl) ?_
        refine ev_ald0 k160_55 ?_
        refine ev_getr k160_56 (by first | assumption | rfl) rfl rfl rfl ?_
        refine ev_bipush k160_59 ?_
        refine ev_iconst k160_61 ?_
        refine ev_ild3 k160_62 ?_
        refine ev_imul k160_63 ?_
        refine ev_iadd k160_64 ?_
        refine ev_ild1 k160_65 ?_
        rw [idx40]
        refine ev_bipush k160_66 ?_
        refine ev_idiv k160_68 (by decide) ?_
        refine ev_ias (j := (7 + 4 * nc)) k160_69 (by first | assumption | rfl) (nI_clamp (by omega)) (vp_in_nI (show 7 + 4 * nc < 321 by omega) (by omega)) ?_
        refine ev_ald0 k160_70 ?_
        refine ev_getr k160_71 (by first | assumption | rfl) rfl rfl rfl ?_
        refine ev_bipush k160_74 ?_
        refine ev_iconst k160_76 ?_
        refine ev_ild3 k160_77 ?_
        refine ev_imul k160_78 ?_
        refine ev_iadd k160_79 ?_
        refine ev_iconst k160_80 ?_
        refine ev_iadd k160_81 ?_
        rw [show (7 : Int32) + 4 * nI nc + 1 = nI (7 + 4 * nc + 1) from idx4 nc 1]
        refine ev_ild1 k160_82 ?_
        refine ev_bipush k160_83 ?_
        refine ev_irem k160_85 (by decide) ?_
        refine ev_ias (j := (7 + 4 * nc + 1)) k160_86 (by first | assumption | rfl) (nI_clamp (by omega)) (vp_in_nI (show 7 + 4 * nc + 1 < 321 by omega) (by omega)) ?_
        refine ev_ald0 k160_87 ?_
        refine ev_getr k160_88 (by first | assumption | rfl) rfl rfl rfl ?_
        refine ev_bipush k160_91 ?_
        refine ev_iconst k160_93 ?_
        refine ev_ild3 k160_94 ?_
        refine ev_imul k160_95 ?_
        refine ev_iadd k160_96 ?_
        refine ev_iconst k160_97 ?_
        refine ev_iadd k160_98 ?_
        rw [show (7 : Int32) + 4 * nI nc + 2 = nI (7 + 4 * nc + 2) from idx4 nc 2]
        refine ev_ild2 k160_99 ?_
        refine ev_ias (j := (7 + 4 * nc + 2)) k160_100 (by first | assumption | rfl) (nI_clamp (by omega)) (vp_in_nI (show 7 + 4 * nc + 2 < 321 by omega) (by omega)) ?_
        refine ev_ald0 k160_101 ?_
        refine ev_getr k160_102 (by first | assumption | rfl) rfl rfl rfl ?_
        refine ev_bipush k160_105 ?_
        refine ev_iconst k160_107 ?_
        refine ev_ild3 k160_108 ?_
        refine ev_imul k160_109 ?_
        refine ev_iadd k160_110 ?_
        refine ev_iconst k160_111 ?_
        refine ev_iadd k160_112 ?_
        rw [show (7 : Int32) + 4 * nI nc + 3 = nI (7 + 4 * nc + 3) from idx4 nc 3]
        refine ev_iconst k160_113 ?_
        refine ev_ias (j := (7 + 4 * nc + 3)) k160_114 (by first | assumption | rfl) (nI_clamp (by omega)) (vp_in_nI (show 7 + 4 * nc + 3 < 321 by omega) (by omega)) ?_
        refine ev_ild3 k160_115 ?_
        refine ev_ri k160_116 rfl ?_
        refine ⟨rfl, Inv_H inv (fun k hk => ?_) (HS_addC (k := x / 10) (m := x % 10) (v := v) hs (by omega) (by omega) (by omega) (by omega) ?_ (fun j hj => ?_) (fun q j hq1 hq hj => ?_) ?_ ?_ ?_ ?_ ?_ ?_ ?_ ?_ ?_ (fun j hj hj2 => ?_))⟩
        · repeat rw [mm_up_ne _ _ _ _ _ (by omega)]
        · simp [cells, mm_up_at]
        · simp only [cells, mm_up_at]; repeat rw [if_neg (by omega)]
        · simp only [cells, mm_up_at]; repeat rw [if_neg (by omega)]
        · simp [cells, mm_up_at, e1]
        · simp [cells, mm_up_at, e2]
        · simp [cells, mm_up_at]
        · simp [cells, mm_up_at]; rfl
        · simp only [mm_up_at]; repeat rw [if_neg (by omega)]
          rw [if_pos (by simp), nI_1]
        · simp only [mm_up_at]; repeat rw [if_neg (by omega)]
          rw [if_pos (by simp)]; exact e1
        · simp only [mm_up_at]; repeat rw [if_neg (by omega)]
          rw [if_pos (by simp)]; exact e2
        · simp only [mm_up_at]; repeat rw [if_neg (by omega)]
          rw [if_pos (by simp)]
        · simp only [mm_up_at]; repeat rw [if_neg (by omega)]
          rw [if_pos (by simp)]; rfl
        · simp only [mm_up_at]; repeat rw [if_neg (by omega)]
      ·
        have hn6 : nc = 6 := by have z : ¬ nc < 6 := fun z => h30 ((nI_ltI (show nc < 2 ^ 31 by omega) (show 6 < 2 ^ 31 by omega)).mpr z); omega
        refine ev_ald0 k76_33 ?_
        refine ev_ldc k76_34 ?_
        refine ev_cV2i k76_36 cs_174 (by first | assumption | rfl) (by omega) (Nat.le_of_ble_eq_true rfl) rfl rfl rfl ?_
        refine sp_error (k := 4) (by decide) (by decide) (by decide) ?_
        refine ev_ri k76_39 rfl ?_
        refine hQ _ _ ?_
        show mm_Ev mm_T0 X (d + 60) 160 0 [.ref 91, .int _, .int _, .retAddr 0] [] _ (mm_pi _)
        refine ev_ild1 k160_0 ?_
        refine ev_cS1i k160_1 cs_237 rfl rfl rfl ?_
        refine sm_isKm ?_
        refine ev_ifz_eq k160_4 (fun g4 => Bool.noConfusion (Eq.trans (Eq.symm h4) g4)) (fun g4 => ?_)
        refine ev_ild2 k160_7 ?_
        refine ev_iconst k160_8 ?_
        refine ev_sipush k160_9 ?_
        refine ev_cS3i k160_12 cs_224 rfl rfl rfl ?_
        refine sp_in ?_
        refine ev_ifz_ne k160_15 (fun g15 => ?_) (fun g15 => Bool.noConfusion (Eq.trans (Eq.symm h11) g15))
        refine ev_ald0 k160_25 ?_
        refine ev_getr k160_26 (by first | assumption | rfl) rfl rfl rfl ?_
        refine ev_iconst k160_29 ?_
        refine ev_ialv (j := 2) k160_30 (by first | assumption | rfl) (by omega) rfl (vp_dec rfl) rc ?_
        refine ev_ist3 k160_31 rfl ?_
        refine ev_ild3 k160_32 ?_
        refine ev_bipush k160_33 ?_
        refine ev_icmp_ne k160_35 (fun g35 => absurd (by rw [hn6]; rfl) g35) (fun g35 => ?_)
        refine ev_ald0 k160_38 ?_
        refine ev_ldc k160_39 ?_
        refine ev_cV2i k160_41 cs_238 (by first | assumption | rfl) (by omega) (Nat.le_of_ble_eq_true rfl) rfl rfl rfl ?_
        refine sm_error (k := 4) (by decide) (by decide) ?_
        refine ev_ri k160_44 rfl ?_
        first | exact ⟨rfl, Inv_e rfl rfl inv⟩ | exact ⟨rfl, inv⟩
    ·
      refine ev_ald0 k76_14 ?_
      refine ev_ldc k76_15 ?_
      refine ev_cV2i k76_17 cs_174 (by first | assumption | rfl) (by omega) (Nat.le_of_ble_eq_true rfl) rfl rfl rfl ?_
      refine sp_error (k := 1) (by decide) (by decide) (by decide) ?_
      refine ev_ri k76_20 rfl ?_
      refine hQ _ _ ?_
      show mm_Ev mm_T0 X (d + 60) 160 0 [.ref 91, .int _, .int _, .retAddr 0] [] _ (mm_pi _)
      refine ev_ild1 k160_0 ?_
      refine ev_cS1i k160_1 cs_237 rfl rfl rfl ?_
      refine sm_isKm ?_
      refine ev_ifz_eq k160_4 (fun g4 => Bool.noConfusion (Eq.trans (Eq.symm h4) g4)) (fun g4 => ?_)
      refine ev_ild2 k160_7 ?_
      refine ev_iconst k160_8 ?_
      refine ev_sipush k160_9 ?_
      refine ev_cS3i k160_12 cs_224 rfl rfl rfl ?_
      refine sp_in ?_
      refine ev_ifz_ne k160_15 (fun g15 => Bool.noConfusion (Eq.trans (Eq.symm h11) g15)) (fun g15 => ?_)
      refine ev_ald0 k160_18 ?_
      refine ev_ldc k160_19 ?_
      refine ev_cV2i k160_21 cs_238 (by first | assumption | rfl) (by omega) (Nat.le_of_ble_eq_true rfl) rfl rfl rfl ?_
      refine sm_error (k := 1) (by decide) (by decide) ?_
      refine ev_ri k160_24 rfl ?_
      first | exact ⟨rfl, Inv_e rfl rfl inv⟩ | exact ⟨rfl, inv⟩
/-- CV.stuff -/
theorem op_stuff {X : Nat × (Nat → Int32)} {d : Nat} {I : mm_I} {P : Int32 → mm_I → Prop} {a : Int32} {b : Int32} {e : Int32} (inv : Inv I) (hQ : ∀ v J, mm_Ev mm_T0 X (d + 60) 162 0 (mm_ent 162 [.ref 91, .int a, .int b, .int e]) [] J (mm_pi fun w K => w = v ∧ Inv K) → P v J) : mm_Ev mm_T0 X (d + 60) 78 0 (mm_ent 78 [.ref 0, .int a, .int b, .int e]) [] I (mm_pi P) := by
  show mm_Ev mm_T0 X (d + 60) 78 0 [.ref 0, .int a, .int b, .int e, .retAddr 0, .retAddr 0] [] I (mm_pi P)
  obtain ⟨nc, np, hs⟩ := inv.1
  obtain ⟨c1, n6, p1, p6, rc, rp, rm, ok, sr, tt⟩ := hsF hs
  have t0 := tCV
  have tm := tM
  have tr := tR
  refine ev_ald0 k78_0 ?_
  refine ev_ild1 k78_1 ?_
  refine ev_cV2i k78_2 cs_176 (by first | assumption | rfl) (by omega) (Nat.le_of_ble_eq_true rfl) rfl rfl rfl ?_
  refine sp_cChair c1 ?_
  refine ev_ifz_eq k78_5 (fun h5 => ?_) (fun h5 => ?_)
  ·
    refine ev_ald0 k78_24 ?_
    refine ev_ldc k78_25 ?_
    refine ev_cV2i k78_27 cs_174 (by first | assumption | rfl) (by omega) (Nat.le_of_ble_eq_true rfl) rfl rfl rfl ?_
    refine sp_error (k := 1) (by decide) (by decide) (by decide) ?_
    refine ev_ri k78_30 rfl ?_
    refine hQ _ _ ?_
    show mm_Ev mm_T0 X (d + 60) 162 0 [.ref 91, .int _, .int _, .int _] [] _ (mm_pi _)
    refine ev_ald0 k162_0 ?_
    refine ev_ild1 k162_1 ?_
    refine ev_cV2i k162_2 cs_239 (by first | assumption | rfl) (by omega) (Nat.le_of_ble_eq_true rfl) rfl rfl rfl ?_
    refine sm_cChair (show _ = nI nc from rc) ?_
    refine ev_ifz_eq k162_5 (fun g5 => ?_) (fun g5 => Bool.noConfusion (Eq.trans (Eq.symm h5) g5))
    refine ev_ald0 k162_46 ?_
    refine ev_ldc k162_47 ?_
    refine ev_cV2i k162_49 cs_238 (by first | assumption | rfl) (by omega) (Nat.le_of_ble_eq_true rfl) rfl rfl rfl ?_
    refine sm_error (k := 1) (by decide) (by decide) ?_
    refine ev_ri k162_52 rfl ?_
    first | exact ⟨rfl, Inv_e rfl rfl inv⟩ | exact ⟨rfl, inv⟩
  ·
    obtain ⟨c, hc, rfl⟩ := wB_in (n := nc) (by omega) h5
    refine ev_ild2 k78_8 ?_
    refine ev_iconst k78_9 ?_
    refine ev_iconst k78_10 ?_
    refine ev_cS3i k78_11 cs_179 rfl rfl rfl ?_
    refine sp_isWithin ?_
    refine ev_ifz_eq k78_14 (fun h14 => ?_) (fun h14 => ?_)
    ·
      refine ev_ald0 k78_24 ?_
      refine ev_ldc k78_25 ?_
      refine ev_cV2i k78_27 cs_174 (by first | assumption | rfl) (by omega) (Nat.le_of_ble_eq_true rfl) rfl rfl rfl ?_
      refine sp_error (k := 1) (by decide) (by decide) (by decide) ?_
      refine ev_ri k78_30 rfl ?_
      refine hQ _ _ ?_
      show mm_Ev mm_T0 X (d + 60) 162 0 [.ref 91, .int _, .int _, .int _] [] _ (mm_pi _)
      refine ev_ald0 k162_0 ?_
      refine ev_ild1 k162_1 ?_
      refine ev_cV2i k162_2 cs_239 (by first | assumption | rfl) (by omega) (Nat.le_of_ble_eq_true rfl) rfl rfl rfl ?_
      refine sm_cChair (show _ = nI nc from rc) ?_
      refine ev_ifz_eq k162_5 (fun g5 => Bool.noConfusion (Eq.trans (Eq.symm h5) g5)) (fun g5 => ?_)
      refine ev_ild2 k162_8 ?_
      refine ev_iconst k162_9 ?_
      refine ev_iconst k162_10 ?_
      refine ev_cS3i k162_11 cs_224 rfl rfl rfl ?_
      refine sp_in ?_
      refine ev_ifz_eq k162_14 (fun g14 => ?_) (fun g14 => Bool.noConfusion (Eq.trans (Eq.symm h14) g14))
      refine ev_ald0 k162_46 ?_
      refine ev_ldc k162_47 ?_
      refine ev_cV2i k162_49 cs_238 (by first | assumption | rfl) (by omega) (Nat.le_of_ble_eq_true rfl) rfl rfl rfl ?_
      refine sm_error (k := 1) (by decide) (by decide) ?_
      refine ev_ri k162_52 rfl ?_
      first | exact ⟨rfl, Inv_e rfl rfl inv⟩ | exact ⟨rfl, inv⟩
    ·
      obtain ⟨w, hw, rfl⟩ := wB_le (hi := 1) (by omega) h14
      refine ev_ild3 k78_17 ?_
      refine ev_cS1i k78_18 cs_173 rfl rfl rfl ?_
      refine sp_isSetOfBills ?_
      refine ev_ifz_ne k78_21 (fun h21 => ?_) (fun h21 => ?_)
      ·
        obtain ⟨x, hx, rfl⟩ := wB_le (hi := 255) (by omega) h21
        refine ev_ild2 k78_31 ?_
        refine ev_if_ne k78_32 (fun h32 => ?_) (fun h32 => ?_)
        ·
          obtain rfl : w = 1 := n11 hw h32
          refine ev_ald0 k78_45 ?_
          refine ev_getr k78_46 (by first | assumption | rfl) rfl rfl rfl ?_
          refine ev_getr k78_49 (by first | assumption | rfl) rfl rfl rfl ?_
          refine ev_ast4 k78_52 rfl ?_
          refine ev_ald4 k78_54 ?_
          refine ev_ild1 k78_56 ?_
          refine ev_ial (j := c) k78_57 (by first | assumption | rfl) (by omega) (nI_clamp (by omega)) (vp_in_nI (show c < 6 by omega) (by omega)) ?_
          refine ev_ist5 k78_58 rfl ?_
          refine ev_ald4 k78_60 ?_
          refine ev_ild1 k78_62 ?_
          refine ev_ild3 k78_63 ?_
          refine ev_ias (j := c) k78_64 (by first | assumption | rfl) (nI_clamp (by omega)) (vp_in_nI (show c < 6 by omega) (by omega)) ?_
          refine ev_ild5 k78_65 ?_
          refine ev_ri k78_67 rfl ?_
          refine hQ _ _ ?_
          show mm_Ev mm_T0 X (d + 60) 162 0 [.ref 91, .int _, .int _, .int _] [] _ (mm_pi _)
          refine ev_ald0 k162_0 ?_
          refine ev_ild1 k162_1 ?_
          refine ev_cV2i k162_2 cs_239 (by first | assumption | rfl) (by omega) (Nat.le_of_ble_eq_true rfl) rfl rfl rfl ?_
          refine sm_cChair (show _ = nI nc from rc) ?_
          refine ev_ifz_eq k162_5 (fun g5 => Bool.noConfusion (Eq.trans (Eq.symm h5) g5)) (fun g5 => ?_)
          refine ev_ild2 k162_8 ?_
          refine ev_iconst k162_9 ?_
          refine ev_iconst k162_10 ?_
          refine ev_cS3i k162_11 cs_224 rfl rfl rfl ?_
          refine sp_in ?_
          refine ev_ifz_eq k162_14 (fun g14 => Bool.noConfusion (Eq.trans (Eq.symm h14) g14)) (fun g14 => ?_)
          refine ev_ild3 k162_17 ?_
          refine ev_iconst k162_18 ?_
          refine ev_sipush k162_19 ?_
          refine ev_cS3i k162_22 cs_224 rfl rfl rfl ?_
          refine sp_in ?_
          refine ev_ifz_eq k162_25 (fun g25 => Bool.noConfusion (Eq.trans (Eq.symm h21) g25)) (fun g25 => ?_)
          refine ev_ald0 k162_28 ?_
          refine ev_bipush k162_29 ?_
          refine ev_iconst k162_31 ?_
          refine ev_ild1 k162_32 ?_
          refine ev_imul k162_33 ?_
          refine ev_iadd k162_34 ?_
          refine ev_iconst k162_35 ?_
          refine ev_iadd k162_36 ?_
          refine ev_ild2 k162_37 ?_
          refine ev_iadd k162_38 ?_
          refine ev_ild3 k162_39 ?_
          refine ev_cV3i k162_40 cs_241 (by first | assumption | rfl) (by omega) (Nat.le_of_ble_eq_true rfl) rfl rfl rfl ?_
          rw [idxS]
          refine sm_becomes (by omega) ?_
          refine ev_goto k162_43 ?_
          refine ev_ri k162_52 rfl ?_
          exact ⟨(rm.2.1 c hc).2.2.2, Inv_up1 4 (by decide) inv (HS_chair (w := 3) (by decide) hc (show x < 256 by omega) hs)⟩
        ·
          obtain rfl : w = 0 := n01 hw h32
          refine ev_ald0 k78_35 ?_
          refine ev_getr k78_36 (by first | assumption | rfl) rfl rfl rfl ?_
          refine ev_getr k78_39 (by first | assumption | rfl) rfl rfl rfl ?_
          refine ev_goto k78_42 ?_
          refine ev_ast4 k78_52 rfl ?_
          refine ev_ald4 k78_54 ?_
          refine ev_ild1 k78_56 ?_
          refine ev_ial (j := c) k78_57 (by first | assumption | rfl) (by omega) (nI_clamp (by omega)) (vp_in_nI (show c < 6 by omega) (by omega)) ?_
          refine ev_ist5 k78_58 rfl ?_
          refine ev_ald4 k78_60 ?_
          refine ev_ild1 k78_62 ?_
          refine ev_ild3 k78_63 ?_
          refine ev_ias (j := c) k78_64 (by first | assumption | rfl) (nI_clamp (by omega)) (vp_in_nI (show c < 6 by omega) (by omega)) ?_
          refine ev_ild5 k78_65 ?_
          refine ev_ri k78_67 rfl ?_
          refine hQ _ _ ?_
          show mm_Ev mm_T0 X (d + 60) 162 0 [.ref 91, .int _, .int _, .int _] [] _ (mm_pi _)
          refine ev_ald0 k162_0 ?_
          refine ev_ild1 k162_1 ?_
          refine ev_cV2i k162_2 cs_239 (by first | assumption | rfl) (by omega) (Nat.le_of_ble_eq_true rfl) rfl rfl rfl ?_
          refine sm_cChair (show _ = nI nc from rc) ?_
          refine ev_ifz_eq k162_5 (fun g5 => Bool.noConfusion (Eq.trans (Eq.symm h5) g5)) (fun g5 => ?_)
          refine ev_ild2 k162_8 ?_
          refine ev_iconst k162_9 ?_
          refine ev_iconst k162_10 ?_
          refine ev_cS3i k162_11 cs_224 rfl rfl rfl ?_
          refine sp_in ?_
          refine ev_ifz_eq k162_14 (fun g14 => Bool.noConfusion (Eq.trans (Eq.symm h14) g14)) (fun g14 => ?_)
          refine ev_ild3 k162_17 ?_
          refine ev_iconst k162_18 ?_
          refine ev_sipush k162_19 ?_
          refine ev_cS3i k162_22 cs_224 rfl rfl rfl ?_
          refine sp_in ?_
          refine ev_ifz_eq k162_25 (fun g25 => Bool.noConfusion (Eq.trans (Eq.symm h21) g25)) (fun g25 => ?_)
          refine ev_ald0 k162_28 ?_
          refine ev_bipush k162_29 ?_
          refine ev_iconst k162_31 ?_
          refine ev_ild1 k162_32 ?_
          refine ev_imul k162_33 ?_
          refine ev_iadd k162_34 ?_
          refine ev_iconst k162_35 ?_
          refine ev_iadd k162_36 ?_
          refine ev_ild2 k162_37 ?_
          refine ev_iadd k162_38 ?_
          refine ev_ild3 k162_39 ?_
          refine ev_cV3i k162_40 cs_241 (by first | assumption | rfl) (by omega) (Nat.le_of_ble_eq_true rfl) rfl rfl rfl ?_
          rw [idxS]
          refine sm_becomes (by omega) ?_
          refine ev_goto k162_43 ?_
          refine ev_ri k162_52 rfl ?_
          exact ⟨(rm.2.1 c hc).2.2.1, Inv_up1 3 (by decide) inv (HS_chair (w := 2) (by decide) hc (show x < 256 by omega) hs)⟩
      ·
        refine ev_ald0 k78_24 ?_
        refine ev_ldc k78_25 ?_
        refine ev_cV2i k78_27 cs_174 (by first | assumption | rfl) (by omega) (Nat.le_of_ble_eq_true rfl) rfl rfl rfl ?_
        refine sp_error (k := 1) (by decide) (by decide) (by decide) ?_
        refine ev_ri k78_30 rfl ?_
        refine hQ _ _ ?_
        show mm_Ev mm_T0 X (d + 60) 162 0 [.ref 91, .int _, .int _, .int _] [] _ (mm_pi _)
        refine ev_ald0 k162_0 ?_
        refine ev_ild1 k162_1 ?_
        refine ev_cV2i k162_2 cs_239 (by first | assumption | rfl) (by omega) (Nat.le_of_ble_eq_true rfl) rfl rfl rfl ?_
        refine sm_cChair (show _ = nI nc from rc) ?_
        refine ev_ifz_eq k162_5 (fun g5 => Bool.noConfusion (Eq.trans (Eq.symm h5) g5)) (fun g5 => ?_)
        refine ev_ild2 k162_8 ?_
        refine ev_iconst k162_9 ?_
        refine ev_iconst k162_10 ?_
        refine ev_cS3i k162_11 cs_224 rfl rfl rfl ?_
        refine sp_in ?_
        refine ev_ifz_eq k162_14 (fun g14 => Bool.noConfusion (Eq.trans (Eq.symm h14) g14)) (fun g14 => ?_)
        refine ev_ild3 k162_17 ?_
        refine ev_iconst k162_18 ?_
        refine ev_sipush k162_19 ?_
        refine ev_cS3i k162_22 cs_224 rfl rfl rfl ?_
        refine sp_in ?_
        refine ev_ifz_eq k162_25 (fun g25 => ?_) (fun g25 => Bool.noConfusion (Eq.trans (Eq.symm h21) g25))
        refine ev_ald0 k162_46 ?_
        refine ev_ldc k162_47 ?_
        refine ev_cV2i k162_49 cs_238 (by first | assumption | rfl) (by omega) (Nat.le_of_ble_eq_true rfl) rfl rfl rfl ?_
        refine sm_error (k := 1) (by decide) (by decide) ?_
        refine ev_ri k162_52 rfl ?_
        first | exact ⟨rfl, Inv_e rfl rfl inv⟩ | exact ⟨rfl, inv⟩
/-- CV.become -/
theorem op_become {X : Nat × (Nat → Int32)} {d : Nat} {I : mm_I} {P : Int32 → mm_I → Prop} {a : Int32} {b : Int32} (inv : Inv I) (hQ : ∀ v J, mm_Ev mm_T0 X (d + 60) 163 0 (mm_ent 163 [.ref 91, .int a, .int b]) [] J (mm_pi fun w K => w = v ∧ Inv K) → P v J) : mm_Ev mm_T0 X (d + 60) 79 0 (mm_ent 79 [.ref 0, .int a, .int b]) [] I (mm_pi P) := by
  show mm_Ev mm_T0 X (d + 60) 79 0 [.ref 0, .int a, .int b, .retAddr 0] [] I (mm_pi P)
  obtain ⟨nc, np, hs⟩ := inv.1
  obtain ⟨c1, n6, p1, p6, rc, rp, rm, ok, sr, tt⟩ := hsF hs
  have t0 := tCV
  have tm := tM
  have tr := tR
  refine ev_ald0 k79_0 ?_
  refine ev_ild1 k79_1 ?_
  refine ev_cV2i k79_2 cs_176 (by first | assumption | rfl) (by omega) (Nat.le_of_ble_eq_true rfl) rfl rfl rfl ?_
  refine sp_cChair c1 ?_
  refine ev_ifz_eq k79_5 (fun h5 => ?_) (fun h5 => ?_)
  ·
    refine ev_ald0 k79_15 ?_
    refine ev_ldc k79_16 ?_
    refine ev_cV2i k79_18 cs_174 (by first | assumption | rfl) (by omega) (Nat.le_of_ble_eq_true rfl) rfl rfl rfl ?_
    refine sp_error (k := 1) (by decide) (by decide) (by decide) ?_
    refine ev_ri k79_21 rfl ?_
    refine hQ _ _ ?_
    show mm_Ev mm_T0 X (d + 60) 163 0 [.ref 91, .int _, .int _] [] _ (mm_pi _)
    refine ev_ald0 k163_0 ?_
    refine ev_ild1 k163_1 ?_
    refine ev_cV2i k163_2 cs_239 (by first | assumption | rfl) (by omega) (Nat.le_of_ble_eq_true rfl) rfl rfl rfl ?_
    refine sm_cChair (show _ = nI nc from rc) ?_
    refine ev_ifz_eq k163_5 (fun g5 => ?_) (fun g5 => Bool.noConfusion (Eq.trans (Eq.symm h5) g5))
    refine ev_ald0 k163_15 ?_
    refine ev_ldc k163_16 ?_
    refine ev_cV2i k163_18 cs_238 (by first | assumption | rfl) (by omega) (Nat.le_of_ble_eq_true rfl) rfl rfl rfl ?_
    refine sm_error (k := 1) (by decide) (by decide) ?_
    refine ev_ri k163_21 rfl ?_
    first | exact ⟨rfl, Inv_e rfl rfl inv⟩ | exact ⟨rfl, inv⟩
  ·
    obtain ⟨c, hc, rfl⟩ := wB_in (n := nc) (by omega) h5
    refine ev_ild2 k79_8 ?_
    refine ev_cS1i k79_9 cs_172 rfl rfl rfl ?_
    refine sp_isKindAndNumber ?_
    refine ev_ifz_ne k79_12 (fun h12 => ?_) (fun h12 => ?_)
    ·
      obtain ⟨x, hx, rfl⟩ := wB_le (hi := 69) (by omega) h12
      obtain ⟨e1, e2⟩ := km_dm ⟨x, by omega⟩
      dsimp only at e1 e2
      have e3 : nI x - nI (x / 10) * 10 = nI (x % 10) := by rw [← e1]; exact e2
      refine ev_ald0 k79_22 ?_
      refine ev_getr k79_23 (by first | assumption | rfl) rfl rfl rfl ?_
      refine ev_getr k79_26 (by first | assumption | rfl) rfl rfl rfl ?_
      refine ev_ild1 k79_29 ?_
      refine ev_ial (j := c) k79_30 (by first | assumption | rfl) (by omega) (nI_clamp (by omega)) (vp_in_nI (show c < 6 by omega) (by omega)) ?_
      refine ev_ist3 k79_31 rfl ?_
      refine ev_ald0 k79_32 ?_
      refine ev_getr k79_33 (by first | assumption | rfl) rfl rfl rfl ?_
      refine ev_getr k79_36 (by first | assumption | rfl) rfl rfl rfl ?_
      refine ev_ild1 k79_39 ?_
      refine ev_ild2 k79_40 ?_
      refine ev_bipush k79_41 ?_
      refine ev_idiv k79_43 (by decide) ?_
      refine ev_ias (j := c) k79_44 (by first | assumption | rfl) (nI_clamp (by omega)) (vp_in_nI (show c < 6 by omega) (by omega)) ?_
      refine ev_ald0 k79_45 ?_
      refine ev_getr k79_46 (by first | assumption | rfl) rfl rfl rfl ?_
      refine ev_getr k79_49 (by first | assumption | rfl) rfl rfl rfl ?_
      refine ev_ild1 k79_52 ?_
      refine ev_ild2 k79_53 ?_
      refine ev_bipush k79_54 ?_
      refine ev_irem k79_56 (by decide) ?_
      refine ev_ias (j := c) k79_57 (by first | assumption | rfl) (nI_clamp (by omega)) (vp_in_nI (show c < 6 by omega) (by omega)) ?_
      refine ev_ild3 k79_58 ?_
      refine ev_ri k79_59 rfl ?_
      refine hQ _ _ ?_
      show mm_Ev mm_T0 X (d + 60) 163 0 [.ref 91, .int _, .int _] [] _ (mm_pi _)
      refine ev_ald0 k163_0 ?_
      refine ev_ild1 k163_1 ?_
      refine ev_cV2i k163_2 cs_239 (by first | assumption | rfl) (by omega) (Nat.le_of_ble_eq_true rfl) rfl rfl rfl ?_
      refine sm_cChair (show _ = nI nc from rc) ?_
      refine ev_ifz_eq k163_5 (fun g5 => Bool.noConfusion (Eq.trans (Eq.symm h5) g5)) (fun g5 => ?_)
      refine ev_ild2 k163_8 ?_
      refine ev_cS1i k163_9 cs_237 rfl rfl rfl ?_
      refine sm_isKm ?_
      refine ev_ifz_ne k163_12 (fun g12 => ?_) (fun g12 => Bool.noConfusion (Eq.trans (Eq.symm h12) g12))
      refine ev_ald0 k163_22 ?_
      refine ev_getr k163_23 (by first | assumption | rfl) rfl rfl rfl ?_
      refine ev_bipush k163_26 ?_
      refine ev_iconst k163_28 ?_
      refine ev_ild1 k163_29 ?_
      refine ev_imul k163_30 ?_
      refine ev_iadd k163_31 ?_
      refine ev_iconst k163_32 ?_
      refine ev_iadd k163_33 ?_
      rw [show (7 : Int32) + 4 * nI c + 1 = nI (7 + 4 * c + 1) from idx4 c 1]
      refine ev_ild2 k163_34 ?_
      refine ev_bipush k163_35 ?_
      refine ev_irem k163_37 (by decide) ?_
      refine ev_ias (j := (7 + 4 * c + 1)) k163_38 (by first | assumption | rfl) (nI_clamp (by omega)) (vp_in_nI (show 7 + 4 * c + 1 < 321 by omega) (by omega)) ?_
      refine ev_ald0 k163_39 ?_
      refine ev_bipush k163_40 ?_
      refine ev_iconst k163_42 ?_
      refine ev_ild1 k163_43 ?_
      refine ev_imul k163_44 ?_
      refine ev_iadd k163_45 ?_
      refine ev_ild2 k163_46 ?_
      refine ev_bipush k163_47 ?_
      refine ev_idiv k163_49 (by decide) ?_
      refine ev_cV3i k163_50 cs_241 (by first | assumption | rfl) (by omega) (Nat.le_of_ble_eq_true rfl) rfl rfl rfl ?_
      rw [idx40]
      refine sm_becomes (by omega) ?_
      refine ev_ri k163_53 rfl ?_
      refine ⟨by rw [mm_up_at, if_neg (by omega)]; exact (rm.2.1 c hc).1, Inv_H inv (fun k hk => ?_) (HS_congr (fun k hk _ _ _ => ?_) (fun j hj => ?_) (HS_chair (w := 1) (x := x % 10) (by decide) hc (show x % 10 < 10 by omega) (HS_chair (w := 0) (x := x / 10) (by decide) hc (show x / 10 < 7 by omega) hs)))⟩
      · repeat rw [mm_up_ne _ _ _ _ _ (by omega)]
      · funext j
        simp only [cells, mm_up_at, e1, e3]
        by_cases k1 : k = 1
        · subst k1; by_cases jc : j = c <;> simp [jc]
        · by_cases k2 : k = 2
          · subst k2; by_cases jc : j = c <;> simp [jc]
          · repeat rw [if_neg (by omega)]
      · simp only [mm_up_at, e1, e3, upd]
        by_cases j1 : j = 7 + 4 * c
        · subst j1; simp
        · by_cases j2 : j = 7 + 4 * c + 1
          · subst j2; simp
          · simp [j1, j2]
    ·
      refine ev_ald0 k79_15 ?_
      refine ev_ldc k79_16 ?_
      refine ev_cV2i k79_18 cs_174 (by first | assumption | rfl) (by omega) (Nat.le_of_ble_eq_true rfl) rfl rfl rfl ?_
      refine sp_error (k := 1) (by decide) (by decide) (by decide) ?_
      refine ev_ri k79_21 rfl ?_
      refine hQ _ _ ?_
      show mm_Ev mm_T0 X (d + 60) 163 0 [.ref 91, .int _, .int _] [] _ (mm_pi _)
      refine ev_ald0 k163_0 ?_
      refine ev_ild1 k163_1 ?_
      refine ev_cV2i k163_2 cs_239 (by first | assumption | rfl) (by omega) (Nat.le_of_ble_eq_true rfl) rfl rfl rfl ?_
      refine sm_cChair (show _ = nI nc from rc) ?_
      refine ev_ifz_eq k163_5 (fun g5 => Bool.noConfusion (Eq.trans (Eq.symm h5) g5)) (fun g5 => ?_)
      refine ev_ild2 k163_8 ?_
      refine ev_cS1i k163_9 cs_237 rfl rfl rfl ?_
      refine sm_isKm ?_
      refine ev_ifz_ne k163_12 (fun g12 => Bool.noConfusion (Eq.trans (Eq.symm h12) g12)) (fun g12 => ?_)
      refine ev_ald0 k163_15 ?_
      refine ev_ldc k163_16 ?_
      refine ev_cV2i k163_18 cs_238 (by first | assumption | rfl) (by omega) (Nat.le_of_ble_eq_true rfl) rfl rfl rfl ?_
      refine sm_error (k := 1) (by decide) (by decide) ?_
      refine ev_ri k163_21 rfl ?_
      first | exact ⟨rfl, Inv_e rfl rfl inv⟩ | exact ⟨rfl, inv⟩
/-- CV.as -/
theorem op_as {X : Nat × (Nat → Int32)} {d : Nat} {I : mm_I} {P : Int32 → mm_I → Prop} {a : Int32} {b : Int32} (inv : Inv I) (hQ : ∀ v J, mm_Ev mm_T0 X (d + 60) 165 0 (mm_ent 165 [.ref 91, .int a, .int b]) [] J (mm_pi fun w K => w = v ∧ Inv K) → P v J) : mm_Ev mm_T0 X (d + 60) 80 0 (mm_ent 80 [.ref 0, .int a, .int b]) [] I (mm_pi P) := by
  show mm_Ev mm_T0 X (d + 60) 80 0 [.ref 0, .int a, .int b] [] I (mm_pi P)
  obtain ⟨nc, np, hs⟩ := inv.1
  obtain ⟨c1, n6, p1, p6, rc, rp, rm, ok, sr, tt⟩ := hsF hs
  have t0 := tCV
  have tm := tM
  have tr := tR
  refine ev_ald0 k80_0 ?_
  refine ev_ild1 k80_1 ?_
  refine ev_cV2i k80_2 cs_176 (by first | assumption | rfl) (by omega) (Nat.le_of_ble_eq_true rfl) rfl rfl rfl ?_
  refine sp_cChair c1 ?_
  refine ev_ifz_eq k80_5 (fun h5 => ?_) (fun h5 => ?_)
  ·
    refine ev_ald0 k80_18 ?_
    refine ev_ldc k80_19 ?_
    refine ev_cV2i k80_21 cs_174 (by first | assumption | rfl) (by omega) (Nat.le_of_ble_eq_true rfl) rfl rfl rfl ?_
    refine sp_error (k := 1) (by decide) (by decide) (by decide) ?_
    refine ev_ri k80_24 rfl ?_
    refine hQ _ _ ?_
    show mm_Ev mm_T0 X (d + 60) 165 0 [.ref 91, .int _, .int _] [] _ (mm_pi _)
    refine ev_ald0 k165_0 ?_
    refine ev_ild1 k165_1 ?_
    refine ev_cV2i k165_2 cs_239 (by first | assumption | rfl) (by omega) (Nat.le_of_ble_eq_true rfl) rfl rfl rfl ?_
    refine sm_cChair (show _ = nI nc from rc) ?_
    refine ev_ifz_eq k165_5 (fun g5 => ?_) (fun g5 => Bool.noConfusion (Eq.trans (Eq.symm h5) g5))
    refine ev_ald0 k165_18 ?_
    refine ev_ldc k165_19 ?_
    refine ev_cV2i k165_21 cs_238 (by first | assumption | rfl) (by omega) (Nat.le_of_ble_eq_true rfl) rfl rfl rfl ?_
    refine sm_error (k := 1) (by decide) (by decide) ?_
    refine ev_ri k165_24 rfl ?_
    first | exact ⟨rfl, Inv_e rfl rfl inv⟩ | exact ⟨rfl, inv⟩
  ·
    obtain ⟨c, hc, rfl⟩ := wB_in (n := nc) (by omega) h5
    refine ev_ild2 k80_8 ?_
    refine ev_iconst k80_9 ?_
    refine ev_bipush k80_10 ?_
    refine ev_cS3i k80_12 cs_179 rfl rfl rfl ?_
    refine sp_isWithin ?_
    refine ev_ifz_ne k80_15 (fun h15 => ?_) (fun h15 => ?_)
    ·
      obtain ⟨w, hw, rfl⟩ := wB_le (hi := 6) (by omega) h15
      obtain ⟨k, m, v, u, hk, hm, hv, hu, ek, em, ev, eu⟩ := sr.1 c hc
      refine ev_ald0 k80_25 ?_
      refine ev_getr k80_26 (by first | assumption | rfl) rfl rfl rfl ?_
      refine ev_getr k80_29 (by first | assumption | rfl) rfl rfl rfl ?_
      refine ev_ild1 k80_32 ?_
      refine ev_ialv (j := c) k80_33 (by first | assumption | rfl) (by omega) (nI_clamp (by omega)) (vp_in_nI (show c < 6 by omega) (by omega)) (show _ = nI k from ek) ?_
      refine ev_ild2 k80_34 ?_
      refine ev_cS2i k80_35 cs_180 rfl rfl rfl ?_
      refine sp_isUnder hk (show w < 7 by omega) ?_
      refine ev_ifz_eq k80_38 (fun h38 => ?_) (fun h38 => ?_)
      ·
        refine ev_ald0 k80_53 ?_
        refine ev_ldc k80_54 ?_
        refine ev_cV2i k80_56 cs_174 (by first | assumption | rfl) (by omega) (Nat.le_of_ble_eq_true rfl) rfl rfl rfl ?_
        refine sp_error (k := 5) (by decide) (by decide) (by decide) ?_
        refine ev_ri k80_59 rfl ?_
        refine hQ _ _ ?_
        show mm_Ev mm_T0 X (d + 60) 165 0 [.ref 91, .int _, .int _] [] _ (mm_pi _)
        refine ev_ald0 k165_0 ?_
        refine ev_ild1 k165_1 ?_
        refine ev_cV2i k165_2 cs_239 (by first | assumption | rfl) (by omega) (Nat.le_of_ble_eq_true rfl) rfl rfl rfl ?_
        refine sm_cChair (show _ = nI nc from rc) ?_
        refine ev_ifz_eq k165_5 (fun g5 => Bool.noConfusion (Eq.trans (Eq.symm h5) g5)) (fun g5 => ?_)
        refine ev_ild2 k165_8 ?_
        refine ev_iconst k165_9 ?_
        refine ev_bipush k165_10 ?_
        refine ev_cS3i k165_12 cs_224 rfl rfl rfl ?_
        refine sp_in ?_
        refine ev_ifz_ne k165_15 (fun g15 => ?_) (fun g15 => Bool.noConfusion (Eq.trans (Eq.symm h15) g15))
        refine ev_ald0 k165_25 ?_
        refine ev_ild1 k165_26 ?_
        refine ev_iconst k165_27 ?_
        refine ev_cV3i k165_28 cs_226 (by first | assumption | rfl) (by omega) (Nat.le_of_ble_eq_true rfl) rfl rfl rfl ?_
        refine sm_ofv (w := 0) (show c < 6 by omega) (by decide) ((rm.2.1 c hc).1.trans ek) ?_
        refine ev_ild2 k165_31 ?_
        refine ev_cS2i k165_32 cs_242 rfl rfl rfl ?_
        refine sm_isUnder ?_
        refine ev_ifz_eq k165_35 (fun g35 => ?_) (fun g35 => Bool.noConfusion (Eq.trans (Eq.symm h38) g35))
        refine ev_ald0 k165_47 ?_
        refine ev_ldc k165_48 ?_
        refine ev_cV2i k165_50 cs_238 (by first | assumption | rfl) (by omega) (Nat.le_of_ble_eq_true rfl) rfl rfl rfl ?_
        refine sm_error (k := 5) (by decide) (by decide) ?_
        refine ev_ri k165_53 rfl ?_
        first | exact ⟨rfl, Inv_e rfl rfl inv⟩ | exact ⟨rfl, inv⟩
      ·
        refine ev_ald0 k80_41 ?_
        refine ev_getr k80_42 (by first | assumption | rfl) rfl rfl rfl ?_
        refine ev_getr k80_45 (by first | assumption | rfl) rfl rfl rfl ?_
        refine ev_ild1 k80_48 ?_
        refine ev_ialv (j := c) k80_49 (by first | assumption | rfl) (by omega) (nI_clamp (by omega)) (vp_in_nI (show c < 6 by omega) (by omega)) (show _ = nI m from em) ?_
        refine ev_goto k80_50 ?_
        refine ev_ri k80_59 rfl ?_
        refine hQ _ _ ?_
        show mm_Ev mm_T0 X (d + 60) 165 0 [.ref 91, .int _, .int _] [] _ (mm_pi _)
        refine ev_ald0 k165_0 ?_
        refine ev_ild1 k165_1 ?_
        refine ev_cV2i k165_2 cs_239 (by first | assumption | rfl) (by omega) (Nat.le_of_ble_eq_true rfl) rfl rfl rfl ?_
        refine sm_cChair (show _ = nI nc from rc) ?_
        refine ev_ifz_eq k165_5 (fun g5 => Bool.noConfusion (Eq.trans (Eq.symm h5) g5)) (fun g5 => ?_)
        refine ev_ild2 k165_8 ?_
        refine ev_iconst k165_9 ?_
        refine ev_bipush k165_10 ?_
        refine ev_cS3i k165_12 cs_224 rfl rfl rfl ?_
        refine sp_in ?_
        refine ev_ifz_ne k165_15 (fun g15 => ?_) (fun g15 => Bool.noConfusion (Eq.trans (Eq.symm h15) g15))
        refine ev_ald0 k165_25 ?_
        refine ev_ild1 k165_26 ?_
        refine ev_iconst k165_27 ?_
        refine ev_cV3i k165_28 cs_226 (by first | assumption | rfl) (by omega) (Nat.le_of_ble_eq_true rfl) rfl rfl rfl ?_
        refine sm_ofv (w := 0) (show c < 6 by omega) (by decide) ((rm.2.1 c hc).1.trans ek) ?_
        refine ev_ild2 k165_31 ?_
        refine ev_cS2i k165_32 cs_242 rfl rfl rfl ?_
        refine sm_isUnder ?_
        refine ev_ifz_eq k165_35 (fun g35 => Bool.noConfusion (Eq.trans (Eq.symm h38) g35)) (fun g35 => ?_)
        refine ev_ald0 k165_38 ?_
        refine ev_ild1 k165_39 ?_
        refine ev_iconst k165_40 ?_
        refine ev_cV3i k165_41 cs_226 (by first | assumption | rfl) (by omega) (Nat.le_of_ble_eq_true rfl) rfl rfl rfl ?_
        refine sm_ofv (w := 1) (show c < 6 by omega) (by decide) ((rm.2.1 c hc).2.1.trans em) ?_
        refine ev_goto k165_44 ?_
        refine ev_ri k165_53 rfl ?_
        first | exact ⟨rfl, Inv_e rfl rfl inv⟩ | exact ⟨rfl, inv⟩
    ·
      refine ev_ald0 k80_18 ?_
      refine ev_ldc k80_19 ?_
      refine ev_cV2i k80_21 cs_174 (by first | assumption | rfl) (by omega) (Nat.le_of_ble_eq_true rfl) rfl rfl rfl ?_
      refine sp_error (k := 1) (by decide) (by decide) (by decide) ?_
      refine ev_ri k80_24 rfl ?_
      refine hQ _ _ ?_
      show mm_Ev mm_T0 X (d + 60) 165 0 [.ref 91, .int _, .int _] [] _ (mm_pi _)
      refine ev_ald0 k165_0 ?_
      refine ev_ild1 k165_1 ?_
      refine ev_cV2i k165_2 cs_239 (by first | assumption | rfl) (by omega) (Nat.le_of_ble_eq_true rfl) rfl rfl rfl ?_
      refine sm_cChair (show _ = nI nc from rc) ?_
      refine ev_ifz_eq k165_5 (fun g5 => Bool.noConfusion (Eq.trans (Eq.symm h5) g5)) (fun g5 => ?_)
      refine ev_ild2 k165_8 ?_
      refine ev_iconst k165_9 ?_
      refine ev_bipush k165_10 ?_
      refine ev_cS3i k165_12 cs_224 rfl rfl rfl ?_
      refine sp_in ?_
      refine ev_ifz_ne k165_15 (fun g15 => Bool.noConfusion (Eq.trans (Eq.symm h15) g15)) (fun g15 => ?_)
      refine ev_ald0 k165_18 ?_
      refine ev_ldc k165_19 ?_
      refine ev_cV2i k165_21 cs_238 (by first | assumption | rfl) (by omega) (Nat.le_of_ble_eq_true rfl) rfl rfl rfl ?_
      refine sm_error (k := 1) (by decide) (by decide) ?_
      refine ev_ri k165_24 rfl ?_
      first | exact ⟨rfl, Inv_e rfl rfl inv⟩ | exact ⟨rfl, inv⟩
