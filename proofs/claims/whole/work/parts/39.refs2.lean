/-! Behind a run each has a chair of his own -/
theorem hDt_free {S : mm_I} {nc p : Nat} {t : Int32} : hDt S 0 nc p t = -1 ∨ ∃ c : Nat, c < nc ∧ hDt S 0 nc p t = nI c ∧ iB t (nI c) = false := by
  have key : ∀ (n i : Nat) (q : Int32 × Int32), i + n = nc → (q.1 = -1 ∨ ∃ c : Nat, c < nc ∧ q.1 = nI c ∧ iB t (nI c) = false) → ((fo (hDs S 0 p t) n i q).1 = -1 ∨ ∃ c : Nat, c < nc ∧ (fo (hDs S 0 p t) n i q).1 = nI c ∧ iB t (nI c) = false) := by
    intro n
    induction n with
    | zero => intro i q _ h; exact h
    | succ n ih =>
      intro i q hi h
      refine ih (i + 1) _ (by omega) ?_
      unfold hDs
      by_cases h1 : iB t (nI i) = true
      · rw [if_pos h1]; exact h
      · have h1' : iB t (nI i) = false := by simpa using h1
        rw [if_neg h1]
        split
        · exact Or.inr ⟨i, by omega, rfl, h1'⟩
        · split
          · exact Or.inr ⟨i, by omega, rfl, h1'⟩
          · exact h
  exact key nc 0 (-1, 0) (by omega) (Or.inl rfl)
theorem set_add : ∀ (r : Fin 64) (p q : Fin 6), iB (nI r.val) (nI p.val) = false → iB (nI (r.val + 2 ^ p.val)) (nI q.val) = (iB (nI r.val) (nI q.val) || decide (p.val = q.val)) := by decide +kernel
theorem set_all : ∀ (n : Fin 7) (p : Fin 6), p.val < n.val → iB (nI (2 ^ n.val - 1)) (nI p.val) = true := by decide +kernel
theorem hRn_dist {S : mm_I} {nc np : Nat} (sp : ∀ p, p < np → (-1 : Int32) < S 6 p) (hnc : nc ≤ 6) (hnp : np ≤ 6) : ∀ p q, p < np → q < np → hRn S 0 nc np p = hRn S 0 nc np q → hRn S 0 nc np p ≠ -1 → p = q := by
  have h64 := pow64 hnp
  have key : ∀ (n i r s : Nat) (a : Nat → Int32), i + n = np → r < 2 ^ np → cnt r = i → s < 64 → (∀ p, p < np → iB (nI r) (nI p) = true → a p = -1 ∨ ∃ c : Nat, c < nc ∧ a p = nI c ∧ iB (nI s) (nI c) = true) → (∀ p q, p < np → q < np → iB (nI r) (nI p) = true → iB (nI r) (nI q) = true → a p = a q → a p ≠ -1 → p = q) → ∀ p q, p < np → q < np → (fo (fun _ q => hRs S 0 nc np q) n i (nI r, nI s, a)).2.2 p = (fo (fun _ q => hRs S 0 nc np q) n i (nI r, nI s, a)).2.2 q → (fo (fun _ q => hRs S 0 nc np q) n i (nI r, nI s, a)).2.2 p ≠ -1 → p = q := by
    intro n
    induction n with
    | zero =>
      intro i r s a hi hr hc hs h1 h2 p q hp hq
      have e : r = 2 ^ np - 1 := by
        have z := (set_full ⟨np, by omega⟩ ⟨r, by omega⟩ hr).1 (by show cnt r = np; omega)
        dsimp only at z
        omega
      subst e
      exact h2 p q hp hq (set_all ⟨np, by omega⟩ ⟨p, by omega⟩ hp) (set_all ⟨np, by omega⟩ ⟨q, by omega⟩ hq)
    | succ n ih =>
      intro i r s a hi hr hc hs h1 h2
      obtain ⟨nz, p0, hp0, hp0f⟩ := (set_full ⟨np, by omega⟩ ⟨r, by omega⟩ hr).2 (by show cnt r < np; omega)
      obtain ⟨w, hw1, hw2, hw3⟩ := hFb_new sp hnp ⟨p0.val, hp0, hp0f⟩
      dsimp only at hw2 hw3
      obtain ⟨st1, st2, st3, st4⟩ := set_step ⟨np, by omega⟩ ⟨r, by omega⟩ ⟨w, by omega⟩ hw1 hr hw3
      dsimp only at st1 st2 st3 st4
      have sa : ∀ q, q < np → iB (nI (r + 2 ^ w)) (nI q) = (iB (nI r) (nI q) || decide (w = q)) := fun q hq => set_add ⟨r, by omega⟩ ⟨w, by omega⟩ ⟨q, by omega⟩ hw3
      have e6 : hRs S 0 nc np (nI r, nI s, a) = (nI (r + 2 ^ w), (if hDt S 0 nc w (nI s) = -1 then nI s else nI s ||| (1 <<< (hDt S 0 nc w (nI s) &&& 31))), upd a w (hDt S 0 nc w (nI s))) := by
        unfold hRs
        dsimp only
        rw [hw2, nI_clamp (by omega), st1]
      show ∀ p q, p < np → q < np → (fo (fun _ q => hRs S 0 nc np q) n (i + 1) (hRs S 0 nc np (nI r, nI s, a))).2.2 p = (fo (fun _ q => hRs S 0 nc np q) n (i + 1) (hRs S 0 nc np (nI r, nI s, a))).2.2 q → (fo (fun _ q => hRs S 0 nc np q) n (i + 1) (hRs S 0 nc np (nI r, nI s, a))).2.2 p ≠ -1 → p = q
      rw [e6]
      rcases hDt_free (S := S) (nc := nc) (p := w) (t := nI s) with hd | ⟨c, hc1, hc2, hc3⟩
      · rw [if_pos hd, hd]
        refine ih (i + 1) (r + 2 ^ w) s _ (by omega) st3 (by omega) hs (fun p hp hb => ?_) (fun p q hp hq hb hb' he hn => ?_)
        · by_cases hpw : p = w
          · left; simp [upd, hpw]
          · rw [show upd a w (-1) p = a p from by simp [upd, hpw]]
            rw [sa p hp] at hb
            have : ¬ w = p := fun z => hpw z.symm
            simp only [this, decide_false, Bool.or_false] at hb
            exact h1 p hp hb
        · by_cases hpw : p = w
          · exact absurd (by simp [upd, hpw]) hn
          · have hn' : a p ≠ -1 := by simpa [upd, hpw] using hn
            by_cases hqw : q = w
            · have he' : a p = -1 := by simpa [upd, hpw, hqw] using he
              exact absurd he' hn'
            · have he' : a p = a q := by simpa [upd, hpw, hqw] using he
              rw [sa p hp] at hb
              rw [sa q hq] at hb'
              have a1 : ¬ w = p := fun z => hpw z.symm
              have a2 : ¬ w = q := fun z => hqw z.symm
              simp only [a1, a2, decide_false, Bool.or_false] at hb hb'
              exact h2 p q hp hq hb hb' he' hn'
      · obtain ⟨t1, t2, -⟩ := tk_set ⟨s, hs⟩ ⟨c, by omega⟩ ⟨0, by decide⟩
        dsimp only at t1 t2
        have t3 : ∀ c', c' < 6 → iB (nI (s ||| 2 ^ c)) (nI c') = (iB (nI s) (nI c') || decide (c = c')) := fun c' hc' => (tk_set ⟨s, hs⟩ ⟨c, by omega⟩ ⟨c', hc'⟩).2.2
        rw [hc2, if_neg (m1_ne (by omega)), t1]
        refine ih (i + 1) (r + 2 ^ w) (s ||| 2 ^ c) _ (by omega) st3 (by omega) t2 (fun p hp hb => ?_) (fun p q hp hq hb hb' he hn => ?_)
        · by_cases hpw : p = w
          · right; exact ⟨c, hc1, by simp [upd, hpw], by rw [t3 c (by omega)]; simp⟩
          · rw [show upd a w (nI c) p = a p from by simp [upd, hpw]]
            rw [sa p hp] at hb
            have : ¬ w = p := fun z => hpw z.symm
            simp only [this, decide_false, Bool.or_false] at hb
            rcases h1 p hp hb with z | ⟨c', z1, z2, z3⟩
            · exact Or.inl z
            · exact Or.inr ⟨c', z1, z2, by rw [t3 c' (by omega), z3]; rfl⟩
        · rw [sa p hp] at hb
          rw [sa q hq] at hb'
          by_cases hpw : p = w
          · by_cases hqw : q = w
            · rw [hpw, hqw]
            · have he' : nI c = a q := by simpa [upd, hpw, hqw] using he
              have a2 : ¬ w = q := fun z => hqw z.symm
              simp only [a2, decide_false, Bool.or_false] at hb'
              rcases h1 q hq hb' with z | ⟨c', z1, z2, z3⟩
              · exact absurd (he'.trans z) (m1_ne (by omega))
              · rw [z2] at he'
                have := nI_inj6 (by omega) (by omega) he'
                rw [← this, hc3] at z3
                cases z3
          · have a1 : ¬ w = p := fun z => hpw z.symm
            simp only [a1, decide_false, Bool.or_false] at hb
            by_cases hqw : q = w
            · have he' : a p = nI c := by simpa [upd, hpw, hqw] using he
              rcases h1 p hp hb with z | ⟨c', z1, z2, z3⟩
              · exact absurd (he'.symm.trans z) (m1_ne (by omega))
              · rw [z2] at he'
                have := nI_inj6 (by omega) (by omega) he'
                rw [this, hc3] at z3
                cases z3
            · have he' : a p = a q := by simpa [upd, hpw, hqw] using he
              have hn' : a p ≠ -1 := by simpa [upd, hpw] using hn
              have a2 : ¬ w = q := fun z => hqw z.symm
              simp only [a2, decide_false, Bool.or_false] at hb'
              exact h2 p q hp hq hb hb' he' hn'
  have z0 : ∀ p : Fin 6, iB (nI 0) (nI p.val) = false := by decide +kernel
  exact key np 0 0 0 (S 8) (by omega) (Nat.pow_pos (by decide)) rfl (by decide) (fun p hp hb => by rw [z0 ⟨p, by omega⟩] at hb; cases hb) (fun p q hp hq hb => by rw [z0 ⟨p, by omega⟩] at hb; cases hb)
/-! The reference: a sitting -/
/-- the house in the midst of a sitting: laws x, the first i cushions worn -/
def Sm (S : mm_I) (nc np : Nat) (x : Int32) (i : Nat) : mm_I := fun k => if k = 0 then upd (S 0) 15 x else if k = 8 then hRn S 0 nc np else if k = 4 then (fun c => if c < i then hCu S 0 nc (hTt S 0 nc np) c else S 4 c) else S k
theorem Sm_ne {S : mm_I} {nc np i k : Nat} {x : Int32} (h0 : k ≠ 0) (h8 : k ≠ 8) (h4 : k ≠ 4) : Sm S nc np x i k = S k := by simp [Sm, h0, h8, h4]
theorem Sm_0 {S : mm_I} {nc np i j : Nat} {x : Int32} (h : j ≠ 15) : Sm S nc np x i 0 j = S 0 j := by simp [Sm, upd, h]
theorem Sm_8 {S : mm_I} {nc np i : Nat} {x : Int32} : Sm S nc np x i 8 = hRn S 0 nc np := by simp [Sm]
theorem Sm_4 {S : mm_I} {nc np : Nat} {x : Int32} : Sm S nc np x 0 4 = S 4 := by simp [Sm]
theorem Sm_sR {S : mm_I} {nc np : Nat} {x : Int32} (hnc : nc ≤ 6) (hnp : np ≤ 6) (sr : sR S nc np) : sR (Sm S nc np x 0) nc np := by
  refine ⟨fun c hc => ?_, fun p hp => ?_, ?_⟩
  · rw [Sm_ne (by decide) (by decide) (by decide), Sm_ne (by decide) (by decide) (by decide), Sm_ne (by decide) (by decide) (by decide), Sm_4]
    exact sr.1 c hc
  · rw [Sm_ne (by decide) (by decide) (by decide), Sm_ne (by decide) (by decide) (by decide), Sm_8]
    obtain ⟨s, h, e1, e2, e3, e4, -⟩ := sr.2.1 p hp
    exact ⟨s, h, e1, e2, e3, e4, hRn_in (fun p hp => by obtain ⟨_, _, _, _, _, _, z⟩ := sr.2.1 p hp; exact z) p hp⟩
  · rw [Sm_8]
    exact hRn_dist (fun p hp => spd sr hp) hnc hnp
theorem Sm_hOK {S : mm_I} {nc np i : Nat} {x : Int32} (ok : hOK S 0 nc) : hOK (Sm S nc np x i) 0 nc := by
  unfold hOK hK hL0 hL1 at *
  rw [Sm_0 (by decide), show Sm S nc np x i (0 + 1) = S (0 + 1) from Sm_ne (by decide) (by decide) (by decide), show Sm S nc np x i (0 + 10) = S (0 + 10) from Sm_ne (by decide) (by decide) (by decide), show Sm S nc np x i (0 + 11) = S (0 + 11) from Sm_ne (by decide) (by decide) (by decide), show Sm S nc np x i (0 + 9) = S (0 + 9) from Sm_ne (by decide) (by decide) (by decide), show Sm S nc np x i (0 + 14) = S (0 + 14) from Sm_ne (by decide) (by decide) (by decide), show Sm S nc np x i (0 + 15) = S (0 + 15) from Sm_ne (by decide) (by decide) (by decide), show Sm S nc np x i (0 + 13) = S (0 + 13) from Sm_ne (by decide) (by decide) (by decide)]
  exact ok
theorem hTk_Sm {S : mm_I} {nc np i : Nat} {x : Int32} : hTk (Sm S nc np x i) 0 np = hTt S 0 nc np := by
  unfold hTk hTt
  rw [show Sm S nc np x i (0 + 8) = hRn S 0 nc np from Sm_8]
theorem hMv_Sm {S : mm_I} {nc np : Nat} {x b t : Int32} : hMv (Sm S nc np x 0) 0 nc (hWt (Sm S nc np x 0) 0) b t = hMv S 0 nc (hWt S 0) b t := hMv_congr (Sm_0 (by decide)) (Sm_0 (by decide)) (fun k h0 h8 => by
  by_cases h4 : k = 4
  · subst h4; exact Sm_4
  · exact Sm_ne h0 h8 h4)
/-- the row in the midst of a sitting -/
def smJ (S I J : mm_I) (nc np : Nat) (x : Int32) (i : Nat) : Prop := (∀ k, k ≠ 92 → k ≠ 98 → k ≠ 99 → J k = I k) ∧ (∀ j, (j = 5 ∨ j = 6 ∨ 49 ≤ j) → J 92 j = I 92 j) ∧ RM (Sm S nc np x i) J nc np
theorem smJ_sc {S I J K : mm_I} {nc np i : Nat} {x : Int32} (h : smJ S I J nc np x i) (hs : sc J K) : smJ S I K nc np x i :=
  ⟨fun k a b c => (hs k b c).trans (h.1 k a b c), fun j hj => by rw [hs 92 (by decide) (by decide)]; exact h.2.1 j hj, RM_congr (hs 92 (by decide) (by decide)) h.2.2⟩
theorem smJ_TR {S I J : mm_I} {nc np i : Nat} {x : Int32} (t : TR S I) (h : smJ S I J nc np x i) : TR (Sm S nc np x i) J :=
  TR_congr2 (fun j hj => h.2.1 j (by omega)) (fun k a _ _ _ b _ _ c => Sm_ne a c b) t
theorem smJ_law {S I J : mm_I} {nc np i : Nat} {x y : Int32} (h : smJ S I J nc np x i) : smJ S I (mm_up J 92 4 y) nc np y i := by
  obtain ⟨h1, h2, ⟨r1, r2, r3, r4, r5, r6⟩, rc, rp, r7, r8, r9⟩ := h
  have k : ∀ j, j ≠ 4 → mm_up J 92 4 y 92 j = J 92 j := fun j hj => by simp [mm_up_at, hj]
  refine ⟨fun k a b c => by rw [mm_up_ne _ _ _ _ _ a]; exact h1 k a b c, fun j hj => by rw [k j (by omega)]; exact h2 j hj, ⟨by rw [k 2 (by decide)]; exact r1, r2, by rw [k 3 (by decide)]; exact r3, r4, r5, r6⟩, fun c hc => ?_, fun p hp => ?_, ?_, ?_, ?_⟩
  · rw [k _ (by omega), k _ (by omega), k _ (by omega), k _ (by omega)]; exact rc c hc
  · rw [k _ (by omega), k _ (by omega), k _ (by omega)]; exact rp p hp
  · rw [k _ (by decide), Sm_0 (by decide)]; rw [Sm_0 (by decide)] at r7; exact r7
  · rw [k _ (by decide), Sm_0 (by decide)]; rw [Sm_0 (by decide)] at r8; exact r8
  · simp [mm_up_at, Sm, upd]
theorem smJ_cush {S I J : mm_I} {nc np i : Nat} {x : Int32} (hi : i < nc) (h : smJ S I J nc np x i) : smJ S I (mm_up J 92 (7 + 4 * i + 3) (hCu S 0 nc (hTt S 0 nc np) i)) nc np x (i + 1) := by
  obtain ⟨h1, h2, ⟨r1, r2, r3, r4, r5, r6⟩, rc, rp, r7, r8, r9⟩ := h
  have k : ∀ j, j ≠ 7 + 4 * i + 3 → mm_up J 92 (7 + 4 * i + 3) (hCu S 0 nc (hTt S 0 nc np) i) 92 j = J 92 j := fun j hj => by simp [mm_up_at, hj]
  refine ⟨fun k a b c => by rw [mm_up_ne _ _ _ _ _ a]; exact h1 k a b c, fun j hj => by rw [k j (by omega)]; exact h2 j hj, ⟨by rw [k 2 (by omega)]; exact r1, r2, by rw [k 3 (by omega)]; exact r3, r4, r5, r6⟩, fun c hc => ?_, fun p hp => ?_, ?_, ?_, ?_⟩
  · obtain ⟨c1, c2, c3, c4⟩ := rc c hc
    refine ⟨by rw [k _ (by omega)]; exact c1, by rw [k _ (by omega)]; exact c2, by rw [k _ (by omega)]; exact c3, ?_⟩
    by_cases hci : c = i
    · subst hci; simp [mm_up_at, Sm]
    · rw [k _ (by omega), c4]
      have e : (c < i + 1) = (c < i) := by apply propext; omega
      simp [Sm, e]
  · rw [k _ (by omega), k _ (by omega), k _ (by omega)]; exact rp p hp
  · rw [k _ (by omega)]; exact r7
  · rw [k _ (by omega)]; exact r8
  · rw [k _ (by omega)]; exact r9
theorem smJ_end {S I J : mm_I} {nc np : Nat} (h : smJ S I J nc np (hLw S 0 nc np) nc) : RM (sit S nc np) (mm_up J 92 0 (S 0 16 + 1)) nc np := by
  obtain ⟨h1, h2, ⟨r1, r2, r3, r4, r5, r6⟩, rc, rp, r7, r8, r9⟩ := h
  have k : ∀ j, j ≠ 0 → mm_up J 92 0 (S 0 16 + 1) 92 j = J 92 j := fun j hj => by simp [mm_up_at, hj]
  rw [Sm_0 (by decide)] at r5 r6 r8
  refine ⟨⟨by rw [k 2 (by omega)]; exact r1, r2, by rw [k 3 (by omega)]; exact r3, r4, by simpa [sit] using r5, by simpa [sit] using r6⟩, fun c hc => ?_, fun p hp => ?_, ?_, ?_, ?_⟩
  · rw [k _ (by omega), k _ (by omega), k _ (by omega), k _ (by omega)]
    obtain ⟨c1, c2, c3, c4⟩ := rc c hc
    rw [Sm_ne (by decide) (by decide) (by decide)] at c1 c2 c3
    refine ⟨c1, c2, c3, c4.trans ?_⟩
    simp [Sm, sit, hc]
  · rw [k _ (by omega), k _ (by omega), k _ (by omega)]
    obtain ⟨p1, p2, p3⟩ := rp p hp
    rw [Sm_ne (by decide) (by decide) (by decide)] at p1 p2
    rw [Sm_8] at p3
    exact ⟨p1, p2, p3⟩
  · simp [mm_up_at, sit]
  · rw [k _ (by decide), r8]; simp [sit]
  · rw [k _ (by decide), r9]; simp [sit, Sm, upd]
theorem atJ_smJ {S I J : mm_I} {nc np : Nat} (rm : RM S I nc np) (h : atJ I J np (hRn S 0 nc np)) : smJ S I J nc np (S 0 15) 0 := by
  have hn := rm.1.2.2.2.1
  have r := atJ_RM rm h
  refine ⟨h.1, fun j hj => h.2.1 j (by omega), ?_⟩
  have e : Sm S nc np (S 0 15) 0 = Sa S (hRn S 0 nc np) := by
    funext k
    by_cases k0 : k = 0
    · subst k0
      rw [Sa_ne (by decide)]
      funext j
      by_cases hj : j = 15
      · subst hj; simp [Sm, upd]
      · rw [Sm_0 hj]
    · by_cases k8 : k = 8
      · subst k8; rw [Sm_8, Sa_at]
      · by_cases k4 : k = 4
        · subst k4; rw [Sm_4, Sa_ne (by decide)]
        · rw [Sm_ne k0 k8 k4, Sa_ne k8]
  rw [e]
  exact r
/-- a reference's row behind a sitting -/
def sgJ (S I J : mm_I) (nc np : Nat) : Prop := (∀ k, k ≠ 92 → k ≠ 98 → k ≠ 99 → J k = I k) ∧ (∀ j, (j = 5 ∨ j = 6 ∨ 49 ≤ j) → J 92 j = I 92 j) ∧ RM (sit S nc np) J nc np
theorem lw_pos {S : mm_I} {nc b : Nat} {t x : Int32} (h : 0 < hMv S 0 nc (hWt S 0) (nI b) t) : hLs S 0 nc t b x = x ||| (1 <<< (nI b &&& 31)) := if_pos h
theorem lw_neg {S : mm_I} {nc b : Nat} {t x : Int32} (h : ¬ 0 < hMv S 0 nc (hWt S 0) (nI b) t) : hLs S 0 nc t b x = x := if_neg h
theorem lm_cush {X : Nat × (Nat → Int32)} {d : Nat} {I : mm_I} {S : mm_I} {nc np : Nat} {P : mm_I → Prop} (rm : RM S I nc np) (ok : hOK S 0 nc) (sr : sR S nc np) (tt : TR S I) (hQ : ∀ J, sgJ S I J nc np → P J) : ∀ (n i : Nat) (J : mm_I) (v2 : Value), i + n = nc → smJ S I J nc np (hLw S 0 nc np) i → mm_Ev mm_T0 X (d + 8) 194 59 [.ref 91, .int (nI i), v2] [] J (mm_pv P) := by
  have tm := tM
  have tr := tR
  have hn6 := rm.1.2.1
  have hp6 := rm.1.2.2.2.1
  have sS : sR (Sm S nc np (hLw S 0 nc np) 0) nc np := Sm_sR hn6 hp6 sr
  have hst : ∀ c, c < nc → (hSt (Sm S nc np (hLw S 0 nc np) 0) 0 np (nI c) < 0 ∧ iB (hTt S 0 nc np) (nI c) = false) ∨ (¬ hSt (Sm S nc np (hLw S 0 nc np) 0) 0 np (nI c) < 0 ∧ iB (hTt S 0 nc np) (nI c) = true) := fun c hc => by
    have z := hSt_tk (np := np) hn6 hp6 (fun p hp => by obtain ⟨_, _, _, _, _, _, w⟩ := sS.2.1 p hp; exact w) (show c < 6 by omega)
    rw [hTk_Sm] at z
    exact z
  have cu_t : ∀ {i : Nat}, ¬ hSt (Sm S nc np (hLw S 0 nc np) 0) 0 np (nI i) < 0 → i < nc → S 4 i &&& (S 4 i - 1) = hCu S 0 nc (hTt S 0 nc np) i := fun h hi => by
    rcases hst _ hi with z | z
    · exact absurd z.1 h
    · exact (if_pos ⟨hi, z.2⟩).symm
  have cu_f : ∀ {i : Nat}, hSt (Sm S nc np (hLw S 0 nc np) 0) 0 np (nI i) < 0 → i < nc → S 4 i = hCu S 0 nc (hTt S 0 nc np) i := fun h hi => by
    rcases hst _ hi with z | z
    · refine (if_neg (fun w => ?_)).symm
      rw [z.2] at w
      exact absurd w.2 (by decide)
    · exact absurd h z.1
  intro n
  induction n with
  | zero =>
    intro i J v2 hi hv
    have e : i = nc := by omega
    subst e
    refine ev_ild1 k194_59 ?_
    refine ev_ald0 k194_60 ?_
    refine ev_getr k194_61 (by first | assumption | rfl) rfl rfl rfl ?_
    refine ev_iconst k194_64 ?_
    refine ev_ial (j := 2) k194_65 (by first | assumption | rfl) (by omega) rfl (vp_dec rfl) ?_
    rw [hv.2.2.1.1]
    refine ev_jcmp_ge k194_66 (fun h66 => ?_) (fun h66 => absurd h66 (nI_nlt (Nat.le_refl _) (by omega)))
    refine ev_ald0 k194_112 ?_
    refine ev_getr k194_113 (by first | assumption | rfl) rfl rfl rfl ?_
    refine ev_iconst k194_116 ?_
    refine ev_dup2 k194_117 rfl rfl ?_
    refine ev_ial (j := 0) k194_118 (by first | assumption | rfl) (by omega) rfl (vp_dec rfl) ?_
    rw [show J 92 0 = S 0 16 from hv.2.2.2.2.2.1.trans (Sm_0 (by decide))]
    refine ev_iconst k194_119 ?_
    refine ev_iadd k194_120 ?_
    refine ev_ias (j := 0) k194_121 (by first | assumption | rfl) rfl (vp_dec rfl) ?_
    refine ev_rv k194_122 rfl ?_
    exact hQ _ ⟨fun k a b c => (mm_up_ne _ _ _ _ _ a).trans (hv.1 k a b c), fun j hj => by rw [mm_up_at, if_neg (by omega)]; exact hv.2.1 j hj, smJ_end hv⟩
  | succ n ih =>
    intro i J v2 hi hv
    have hlt : i < nc := by omega
    refine ev_ild1 k194_59 ?_
    refine ev_ald0 k194_60 ?_
    refine ev_getr k194_61 (by first | assumption | rfl) rfl rfl rfl ?_
    refine ev_iconst k194_64 ?_
    refine ev_ial (j := 2) k194_65 (by first | assumption | rfl) (by omega) rfl (vp_dec rfl) ?_
    rw [hv.2.2.1.1]
    refine ev_jcmp_ge k194_66 (fun h66 => absurd (nI_lt hlt (by omega)) h66) (fun h66 => ?_)
    refine ev_ald0 k194_69 ?_
    refine ev_ild1 k194_70 ?_
    refine ev_iconst k194_71 ?_
    refine ev_cV3i k194_72 cs_226 (by first | assumption | rfl) (by omega) (Nat.le_of_ble_eq_true rfl) rfl rfl rfl ?_
    refine sm_of (w := 3) (by omega) (by omega) ?_
    rw [show J 92 (7 + 4 * i + 3) = S 4 i from (hv.2.2.2.1 i hlt).2.2.2.trans (by simp [Sm])]
    refine ev_ist2 k194_75 rfl ?_
    refine ev_ald0 k194_76 ?_
    refine ev_getr k194_77 (by first | assumption | rfl) rfl rfl rfl ?_
    refine ev_bipush k194_80 ?_
    refine ev_iconst k194_82 ?_
    refine ev_ild1 k194_83 ?_
    refine ev_imul k194_84 ?_
    refine ev_iadd k194_85 ?_
    refine ev_iconst k194_86 ?_
    refine ev_iadd k194_87 ?_
    refine ev_ald0 k194_88 ?_
    refine ev_ild1 k194_89 ?_
    refine ev_cV2i k194_90 cs_240 (by first | assumption | rfl) (by omega) (Nat.le_of_ble_eq_true rfl) rfl rfl rfl ?_
    refine sm_whoAt (c := nI i) hv.2.2 ?_
    rw [show hSt (Sm S nc np (hLw S 0 nc np) i) 0 np (nI i) = hSt (Sm S nc np (hLw S 0 nc np) 0) 0 np (nI i) from by unfold hSt; rw [show (0 + 8 : Nat) = 8 from rfl, Sm_8, Sm_8]]
    refine ev_if_lt k194_93 (fun h93 => ?_) (fun h93 => ?_)
    ·
      refine ev_ild2 k194_104 ?_
      rw [show (7 : Int32) + 4 * nI i + 3 = nI (7 + 4 * i + 3) from idx4 i 3]
      refine ev_ias (j := (7 + 4 * i + 3)) k194_105 (by first | assumption | rfl) (nI_clamp (by omega)) (vp_in_nI (show 7 + 4 * i + 3 < 321 by omega) (by omega)) ?_
      refine ev_inc1 k194_106 rfl ?_
      refine ev_goto k194_109 ?_
      rw [nI_1]
      first | (rw [show S 4 i &&& (S 4 i - 1) = hCu S 0 nc (hTt S 0 nc np) i from cu_t h93 hlt]; exact ih (i + 1) _ _ (by omega) (smJ_cush hlt hv)) | (rw [show S 4 i = hCu S 0 nc (hTt S 0 nc np) i from cu_f h93 hlt]; exact ih (i + 1) _ _ (by omega) (smJ_cush hlt hv))
    ·
      refine ev_ild2 k194_96 ?_
      refine ev_ild2 k194_97 ?_
      refine ev_iconst k194_98 ?_
      refine ev_isub k194_99 ?_
      refine ev_iand k194_100 ?_
      refine ev_goto k194_101 ?_
      rw [show (7 : Int32) + 4 * nI i + 3 = nI (7 + 4 * i + 3) from idx4 i 3]
      refine ev_ias (j := (7 + 4 * i + 3)) k194_105 (by first | assumption | rfl) (nI_clamp (by omega)) (vp_in_nI (show 7 + 4 * i + 3 < 321 by omega) (by omega)) ?_
      refine ev_inc1 k194_106 rfl ?_
      refine ev_goto k194_109 ?_
      rw [nI_1]
      first | (rw [show S 4 i &&& (S 4 i - 1) = hCu S 0 nc (hTt S 0 nc np) i from cu_t h93 hlt]; exact ih (i + 1) _ _ (by omega) (smJ_cush hlt hv)) | (rw [show S 4 i = hCu S 0 nc (hTt S 0 nc np) i from cu_f h93 hlt]; exact ih (i + 1) _ _ (by omega) (smJ_cush hlt hv))
theorem lm_bills {X : Nat × (Nat → Int32)} {d : Nat} {I : mm_I} {S : mm_I} {nc np : Nat} {P : mm_I → Prop} (rm : RM S I nc np) (ok : hOK S 0 nc) (sr : sR S nc np) (tt : TR S I) (hQ : ∀ J, sgJ S I J nc np → P J) : ∀ (n i : Nat) (J : mm_I) (z : Nat), i + n = 8 → (z < 256 ∧ smJ S I J nc np (nI z) 0 ∧ fo (hLs S 0 nc (hTt S 0 nc np)) n i (nI (z % 2 ^ i)) = hLw S 0 nc np) → mm_Ev mm_T0 X (d + 8) 194 6 [.ref 91, .int (nI i), .retAddr 0] [] J (mm_pv P) := by
  have tm := tM
  have tr := tR
  have hn6 := rm.1.2.1
  have hp6 := rm.1.2.2.2.1
  intro n
  induction n with
  | zero =>
    intro i J z hi hv
    have e : i = 8 := by omega
    subst e
    refine ev_ild1 k194_6 ?_
    refine ev_bipush k194_7 ?_
    rw [show (8 : Int32) = nI 8 from rfl]
    refine ev_jcmp_ge k194_9 (fun h9 => ?_) (fun h9 => absurd h9 (nI_nlt (Nat.le_refl _) (by omega)))
    refine ev_iconst k194_57 ?_
    refine ev_ist1 k194_58 rfl ?_
    have ez : nI z = hLw S 0 nc np := by
      have w := hv.2.2
      rw [show z % 2 ^ 8 = z from Nat.mod_eq_of_lt hv.1] at w
      exact w
    have h2 := hv.2.1
    rw [ez] at h2
    exact lm_cush rm ok sr tt hQ nc 0 J (.retAddr 0) (by omega) h2
  | succ n ih =>
    intro i J z hi hv
    have hlt : i < 8 := by omega
    have e4 : ∀ K, sc J K → K 92 4 = nI z := fun K hK => by rw [hK 92 (by decide) (by decide), hv.2.1.2.2.2.2.2.2.2]; simp [Sm, upd]
    refine ev_ild1 k194_6 ?_
    refine ev_bipush k194_7 ?_
    rw [show (8 : Int32) = nI 8 from rfl]
    refine ev_jcmp_ge k194_9 (fun h9 => absurd (nI_lt hlt (by omega)) h9) (fun h9 => ?_)
    refine ev_ald0 k194_12 ?_
    refine ev_getr k194_13 (by first | assumption | rfl) rfl rfl rfl ?_
    refine ev_iconst k194_16 ?_
    refine ev_ald0 k194_17 ?_
    refine ev_ild1 k194_18 ?_
    refine ev_cV2i k194_19 cs_260 (by first | assumption | rfl) (by omega) (Nat.le_of_ble_eq_true rfl) rfl rfl rfl ?_
    refine sm_doesPass hv.2.1.2.2 (Sm_hOK ok) (Sm_sR hn6 hp6 sr) (smJ_TR tt hv.2.1) (fun K hK => ?_)
    rw [hTk_Sm, hMv_Sm]
    refine ev_ifz_eq k194_22 (fun h22 => ?_) (fun h22 => ?_)
    ·
      refine ev_ald0 k194_38 ?_
      refine ev_getr k194_39 (by first | assumption | rfl) rfl rfl rfl ?_
      refine ev_iconst k194_42 ?_
      refine ev_ial (j := 4) k194_43 (by first | assumption | rfl) (by omega) rfl (vp_dec rfl) ?_
      refine ev_iconst k194_44 ?_
      refine ev_ild1 k194_45 ?_
      refine ev_ishl k194_46 ?_
      refine ev_iconst k194_47 ?_
      refine ev_ixor k194_48 ?_
      refine ev_iand k194_49 ?_
      refine ev_ias (j := 4) k194_50 (by first | assumption | rfl) rfl (vp_dec rfl) ?_
      refine ev_inc1 k194_51 rfl ?_
      refine ev_goto k194_54 ?_
      rw [nI_1, show K 92 4 = nI z from e4 K hK]
      have hK2 := smJ_sc hv.2.1 hK
      obtain ⟨b1, b2, b3, b4, b5, b6, b7⟩ := lw_bits ⟨i, hlt⟩ ⟨z, hv.1⟩
      dsimp only at b1 b2 b3 b4 b5 b6 b7
      have hf : fo (hLs S 0 nc (hTt S 0 nc np)) n (i + 1) (hLs S 0 nc (hTt S 0 nc np) i (nI (z % 2 ^ i))) = hLw S 0 nc np := hv.2.2
      first | (rw [b1]; rw [lw_pos (of_decide_eq_true h22), b3, ← b6] at hf; exact ih (i + 1) _ _ (by omega) ⟨b4, smJ_law hK2, hf⟩) | (rw [b2]; rw [lw_neg (of_decide_eq_false h22)] at hf; refine ih (i + 1) _ _ (by omega) ⟨b5, smJ_law hK2, ?_⟩; rw [b7]; exact hf)
    ·
      refine ev_ald0 k194_25 ?_
      refine ev_getr k194_26 (by first | assumption | rfl) rfl rfl rfl ?_
      refine ev_iconst k194_29 ?_
      refine ev_ial (j := 4) k194_30 (by first | assumption | rfl) (by omega) rfl (vp_dec rfl) ?_
      refine ev_iconst k194_31 ?_
      refine ev_ild1 k194_32 ?_
      refine ev_ishl k194_33 ?_
      refine ev_ior k194_34 ?_
      refine ev_goto k194_35 ?_
      refine ev_ias (j := 4) k194_50 (by first | assumption | rfl) rfl (vp_dec rfl) ?_
      refine ev_inc1 k194_51 rfl ?_
      refine ev_goto k194_54 ?_
      rw [nI_1, show K 92 4 = nI z from e4 K hK]
      have hK2 := smJ_sc hv.2.1 hK
      obtain ⟨b1, b2, b3, b4, b5, b6, b7⟩ := lw_bits ⟨i, hlt⟩ ⟨z, hv.1⟩
      dsimp only at b1 b2 b3 b4 b5 b6 b7
      have hf : fo (hLs S 0 nc (hTt S 0 nc np)) n (i + 1) (hLs S 0 nc (hTt S 0 nc np) i (nI (z % 2 ^ i))) = hLw S 0 nc np := hv.2.2
      first | (rw [b1]; rw [lw_pos (of_decide_eq_true h22), b3, ← b6] at hf; exact ih (i + 1) _ _ (by omega) ⟨b4, smJ_law hK2, hf⟩) | (rw [b2]; rw [lw_neg (of_decide_eq_false h22)] at hf; refine ih (i + 1) _ _ (by omega) ⟨b5, smJ_law hK2, ?_⟩; rw [b7]; exact hf)
/-- Model.sitting -/
theorem sm_sitting {X : Nat × (Nat → Int32)} {d : Nat} {I : mm_I} {S : mm_I} {nc np : Nat} {P : mm_I → Prop} (rm : RM S I nc np) (ok : hOK S 0 nc) (sr : sR S nc np) (tt : TR S I) (hlw : ∃ z : Nat, z < 256 ∧ S 0 15 = nI z) (hQ : ∀ J, sgJ S I J nc np → P J) : mm_Ev mm_T0 X (d + 8) 194 0 (mm_ent 194 [.ref 91]) [] I (mm_pv P) := by
  show mm_Ev mm_T0 X (d + 8) 194 0 [.ref 91, .retAddr 0, .retAddr 0] [] I (mm_pv P)
  have tm := tM
  have tr := tR
  refine ev_ald0 k194_0 ?_
  refine ev_cV1v k194_1 cs_264 (by first | assumption | rfl) (by omega) (Nat.le_of_ble_eq_true rfl) rfl rfl rfl ?_
  refine sm_runs rm ok (fun p hp => spd sr hp) tt (fun J hJ => ?_)
  refine ev_iconst k194_4 ?_
  refine ev_ist1 k194_5 rfl ?_
  obtain ⟨z, hz, ez⟩ := hlw
  have h1 := atJ_smJ rm hJ
  rw [ez] at h1
  exact lm_bills rm ok sr tt hQ 8 0 J z rfl ⟨hz, h1, by rw [show z % 2 ^ 0 = 0 from Nat.mod_one z]; rfl⟩
