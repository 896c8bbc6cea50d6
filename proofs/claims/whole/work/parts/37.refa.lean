/-! The reference: all run -/
def cnt (r : Nat) : Nat := r % 2 + r / 2 % 2 + r / 4 % 2 + r / 8 % 2 + r / 16 % 2 + r / 32 % 2
theorem set_step : ∀ (n : Fin 7) (r : Fin 64) (p : Fin 6), p.val < n.val → r.val < 2 ^ n.val → iB (nI r.val) (nI p.val) = false → (nI r.val ||| (1 <<< (nI p.val &&& 31))) = nI (r.val + 2 ^ p.val) ∧ (nI (2 ^ n.val - 1 - r.val) &&& ((1 <<< (nI p.val &&& 31)) ^^^ -1)) = nI (2 ^ n.val - 1 - (r.val + 2 ^ p.val)) ∧ r.val + 2 ^ p.val < 2 ^ n.val ∧ cnt (r.val + 2 ^ p.val) = cnt r.val + 1 := by decide +kernel
theorem set_neg : ∀ (n : Fin 7) (r : Fin 64) (p : Fin 6), p.val < n.val → r.val < 2 ^ n.val → iB (nI (2 ^ n.val - 1 - r.val)) (nI p.val) = !(iB (nI r.val) (nI p.val)) := by decide +kernel
theorem set_full : ∀ (n : Fin 7) (r : Fin 64), r.val < 2 ^ n.val → (cnt r.val = n.val → 2 ^ n.val - 1 - r.val = 0) ∧ (cnt r.val < n.val → ¬ 2 ^ n.val - 1 - r.val = 0 ∧ ∃ p : Fin 6, p.val < n.val ∧ iB (nI r.val) (nI p.val) = false) := by decide +kernel
theorem set_mask : ∀ n : Fin 7, (1 : Int32) <<< (nI n.val &&& 31) - 1 = nI (2 ^ n.val - 1) := by decide +kernel
theorem pow64 {n : Nat} (h : n ≤ 6) : 2 ^ n ≤ 64 := Nat.pow_le_pow_right (by decide) h
theorem TR_congr2 {S S' I J : mm_I} (h : ∀ j, 119 ≤ j → J 92 j = I 92 j) (hs : ∀ k, k ≠ 0 → k ≠ 1 → k ≠ 2 → k ≠ 3 → k ≠ 4 → k ≠ 6 → k ≠ 7 → k ≠ 8 → S' k = S k) (t : TR S I) : TR S' J := by
  have e10 := hs 10 (by decide) (by decide) (by decide) (by decide) (by decide) (by decide) (by decide) (by decide)
  have e14 := hs 14 (by decide) (by decide) (by decide) (by decide) (by decide) (by decide) (by decide) (by decide)
  have e11 := hs 11 (by decide) (by decide) (by decide) (by decide) (by decide) (by decide) (by decide) (by decide)
  have e15 := hs 15 (by decide) (by decide) (by decide) (by decide) (by decide) (by decide) (by decide) (by decide)
  have l0 : hL0 S' 0 = hL0 S 0 := by unfold hL0; rw [show S' (0 + 10) = S (0 + 10) from e10]
  have l1 : hL1 S' 0 = hL1 S 0 := by unfold hL1; rw [show S' (0 + 14) = S (0 + 14) from e14]
  unfold TR at *
  rw [l0, l1, e11, e15, h 119 (by omega), h 220 (by omega)]
  refine ⟨t.1.elim Or.inl (fun z => Or.inr ⟨z.1, fun i hi => ?_, z.2.2⟩), t.2.elim Or.inl (fun z => Or.inr ⟨z.1, fun i hi => ?_, z.2.2⟩)⟩
  · rw [h _ (by omega), h _ (by omega)]
    exact z.2.1 i hi
  · rw [h _ (by omega), h _ (by omega)]
    exact z.2.1 i hi
def Sa (S : mm_I) (a : Nat → Int32) : mm_I := mm_rp S 8 a
theorem Sa_ne {S : mm_I} {a : Nat → Int32} {k : Nat} (h : k ≠ 8) : Sa S a k = S k := mm_rp_ne _ _ _ h
theorem Sa_at (S : mm_I) (a : Nat → Int32) : Sa S a 8 = a := mm_rp_at _ _ _
/-- J is I, but for where the members are, and for what is only used -/
def atJ (I J : mm_I) (np : Nat) (a : Nat → Int32) : Prop := (∀ k, k ≠ 92 → k ≠ 98 → k ≠ 99 → J k = I k) ∧ (∀ j, (∀ p, p < np → j ≠ 31 + 3 * p + 2) → J 92 j = I 92 j) ∧ (∀ p, p < np → J 92 (31 + 3 * p + 2) = a p)
theorem atJ_RM {S I J : mm_I} {nc np : Nat} {a : Nat → Int32} (rm : RM S I nc np) (h : atJ I J np a) : RM (Sa S a) J nc np := by
  obtain ⟨⟨r1, r2, r3, r4, r5, r6⟩, rc, rp, r7, r8, r9⟩ := rm
  have k : ∀ j, (∀ p, p < np → j ≠ 31 + 3 * p + 2) → J 92 j = I 92 j := h.2.1
  refine ⟨⟨by rw [k 2 (by omega)]; exact r1, r2, by rw [k 3 (by omega)]; exact r3, r4, by rw [Sa_ne (by decide)]; exact r5, by rw [Sa_ne (by decide)]; exact r6⟩, fun c hc => ?_, fun p hp => ?_, ?_, ?_, ?_⟩
  · rw [k _ (by omega), k _ (by omega), k _ (by omega), k _ (by omega), Sa_ne (by decide), Sa_ne (by decide), Sa_ne (by decide), Sa_ne (by decide)]
    exact rc c hc
  · rw [k _ (by omega), k _ (by omega), h.2.2 p hp, Sa_ne (by decide), Sa_ne (by decide), Sa_at]
    exact ⟨(rp p hp).1, (rp p hp).2.1, rfl⟩
  · rw [k _ (by omega), Sa_ne (by decide)]; exact r7
  · rw [k _ (by omega), Sa_ne (by decide)]; exact r8
  · rw [k _ (by omega), Sa_ne (by decide)]; exact r9
theorem hOK_Sa {S : mm_I} {nc : Nat} {a : Nat → Int32} (ok : hOK S 0 nc) : hOK (Sa S a) 0 nc := hOK_congr2 (fun k _ b _ _ => Sa_ne b) ok
theorem hFb_Sa {S : mm_I} {np : Nat} {a : Nat → Int32} {r : Int32} : hFb (Sa S a) 0 np r = hFb S 0 np r := hFb_congr (Sa_ne (by decide))
theorem hDt_Sa {S : mm_I} {nc p : Nat} {a : Nat → Int32} {t : Int32} : hDt (Sa S a) 0 nc p t = hDt S 0 nc p t := hDt_congr (fun k _ b _ _ => Sa_ne b)
/-- the fastest hasn't run yet -/
theorem hFb_new {S : mm_I} {np : Nat} {r : Int32} (sp : ∀ p, p < np → (-1 : Int32) < S 6 p) (hn : np ≤ 6) (hex : ∃ p, p < np ∧ iB r (nI p) = false) : ∃ p, p < np ∧ hFb S 0 np r = nI p ∧ iB r (nI p) = false := by
  have key : ∀ (n i : Nat) (q : Int32 × Int32), i + n = np → ((q.2 = -1 ∧ ∃ p, i ≤ p ∧ p < np ∧ iB r (nI p) = false) ∨ (∃ p, p < np ∧ q.1 = nI p ∧ iB r (nI p) = false)) → ∃ p, p < np ∧ (fo (hFs S 0 r) n i q).1 = nI p ∧ iB r (nI p) = false := by
    intro n
    induction n with
    | zero =>
      intro i q hi h
      rcases h with ⟨-, p, h1, h2, -⟩ | h
      · omega
      · exact h
    | succ n ih =>
      intro i q hi h
      refine ih (i + 1) _ (by omega) ?_
      unfold hFs
      by_cases h1 : iB r (nI i) = true
      · rw [if_pos h1]
        rcases h with ⟨h2, p, h3, h4, h5⟩ | h
        · refine Or.inl ⟨h2, p, ?_, h4, h5⟩
          rcases Nat.lt_or_ge i p with z | z
          · omega
          · rw [show p = i by omega, h1] at h5; cases h5
        · exact Or.inr h
      · have h1' : iB r (nI i) = false := by simpa using h1
        rw [if_neg h1]
        by_cases h2 : q.2 < S 6 i
        · rw [if_pos (show q.2 < S (0 + 6) i from h2)]
          exact Or.inr ⟨i, by omega, rfl, h1'⟩
        · rw [if_neg (show ¬ q.2 < S (0 + 6) i from h2)]
          rcases h with ⟨h3, -⟩ | h
          · exact absurd (by rw [h3]; exact sp i (by omega)) h2
          · exact Or.inr h
  obtain ⟨p, p1, p2⟩ := hex
  exact key np 0 (0, -1) (by omega) (Or.inl ⟨rfl, p, Nat.zero_le _, p1, p2⟩)
theorem lm_runs {X : Nat × (Nat → Int32)} {d : Nat} {S I : mm_I} {nc np : Nat} {P : mm_I → Prop} (rm : RM S I nc np) (ok : hOK S 0 nc) (sp : ∀ p, p < np → (-1 : Int32) < S 6 p) (tt : TR S I) : ∀ (n i r : Nat) (t : Int32) (a : Nat → Int32) (J : mm_I) (v3 v4 : Value), i + n = np → r < 2 ^ np → cnt r = i → v3.category = 1 → atJ I J np a → (∀ J, atJ I J np (fo (fun _ q => hRs S 0 nc np q) n i (nI r, t, a)).2.2 → P J) → mm_Ev mm_T0 X (d + 5) 192 13 [.ref 91, .int (nI (2 ^ np - 1 - r)), .int t, v3, v4] [] J (mm_pv P) := by
  have hnp := rm.1.2.2.2.1
  have hnc := rm.1.2.1
  have h64 := pow64 hnp
  have tm := tM
  have tr := tR
  intro n
  induction n with
  | zero =>
    intro i r t a J v3 v4 hi hr hc hv3 hJ hQ
    have hz : nI (2 ^ np - 1 - r) = 0 := by
      rw [(set_full ⟨np, by omega⟩ ⟨r, by omega⟩ hr).1 (by show cnt r = np; omega)]
      rfl
    refine ev_ild1 k192_13 ?_
    rw [hz]
    refine ev_if_eq k192_14 (fun h14 => ?_) (fun h14 => absurd rfl h14)
    refine ev_rv k192_66 rfl ?_
    exact hQ J hJ
  | succ n ih =>
    intro i r t a J v3 v4 hi hr hc hv3 hJ hQ
    obtain ⟨nz, p0, hp0, hp0f⟩ := (set_full ⟨np, by omega⟩ ⟨r, by omega⟩ hr).2 (by show cnt r < np; omega)
    have hnz : ¬ nI (2 ^ np - 1 - r) = 0 := nI_ne0 (Nat.pos_of_ne_zero nz) (by omega)
    have rmJ := atJ_RM rm hJ
    have okJ : hOK (Sa S a) 0 nc := hOK_Sa ok
    have spJ : ∀ p, p < np → (-1 : Int32) < Sa S a 6 p := fun p hp => by rw [Sa_ne (by decide)]; exact sp p hp
    have ttJ : TR (Sa S a) J := TR_congr2 (fun j hj => hJ.2.1 j (by omega)) (fun k _ _ _ _ _ _ _ h8 => Sa_ne h8) tt
    have hneg : ∀ p, p < np → iB (nI (2 ^ np - 1 - r)) (nI p) = !(iB (nI r) (nI p)) := fun p hp => set_neg ⟨np, by omega⟩ ⟨r, by omega⟩ ⟨p, by omega⟩ hp hr
    have hex : ∃ p, p < np ∧ iB (nI r) (nI p) = false := ⟨p0.val, hp0, hp0f⟩
    obtain ⟨p, hp1, hp2, hp3⟩ := hFb_new sp hnp hex
    obtain ⟨st1, st2, st3, st4⟩ := set_step ⟨np, by omega⟩ ⟨r, by omega⟩ ⟨p, by omega⟩ hp1 hr hp3
    dsimp only at st1 st2 st3 st4
    have dneg : hDt S 0 nc p t < 0 → hDt S 0 nc p t = -1 := fun z => by
      rcases hDt_in (I := S) (hb := 0) (nc := nc) (p := p) (t := t) with e | ⟨j, hj, e⟩
      · exact e
      · rw [e] at z; exact absurd z (nI_pos (by omega))
    have dpos : ¬ hDt S 0 nc p t < 0 → ¬ hDt S 0 nc p t = -1 := fun z w => z (by rw [w]; decide)
    refine ev_ild1 k192_13 ?_
    refine ev_if_eq k192_14 (fun h14 => absurd h14 hnz) (fun h14 => ?_)
    refine ev_ald0 k192_17 ?_
    refine ev_ild1 k192_18 ?_
    refine ev_cV2i k192_19 cs_262 (by first | assumption | rfl) (by omega) (Nat.le_of_ble_eq_true rfl) rfl rfl rfl ?_
    refine sm_fastest (r := nI r) rmJ okJ spJ hneg hex ?_
    rw [hFb_Sa, hp2]
    refine ev_ist3 k192_22 rfl ?_
    refine ev_ald0 k192_23 ?_
    refine ev_ild3 k192_24 ?_
    refine ev_ild2 k192_25 ?_
    refine ev_cV3i k192_26 cs_263 (by first | assumption | rfl) (by omega) (Nat.le_of_ble_eq_true rfl) rfl rfl rfl ?_
    refine sm_takes rmJ okJ spJ ttJ hp1 (fun K hK => ?_)
    rw [hDt_Sa]
    refine ev_ist4 k192_29 rfl ?_
    refine ev_ald0 k192_31 ?_
    refine ev_ild3 k192_32 ?_
    refine ev_iconst k192_33 ?_
    refine ev_ild4 k192_34 ?_
    refine ev_cV4v k192_36 cs_244 (by first | assumption | rfl) (by omega) (Nat.le_of_ble_eq_true rfl) rfl rfl rfl ?_
    refine sm_lets (w := 2) (show p < 6 by omega) (by omega) ?_
    refine ev_ild2 k192_39 ?_
    refine ev_ild4 k192_40 ?_
    refine ev_if_lt k192_42 (fun h42 => ?_) (fun h42 => ?_)
    ·
      refine ev_iconst k192_52 ?_
      refine ev_ior k192_53 ?_
      refine ev_ist2 k192_54 rfl ?_
      refine ev_ild1 k192_55 ?_
      refine ev_iconst k192_56 ?_
      refine ev_ild3 k192_57 ?_
      refine ev_ishl k192_58 ?_
      refine ev_iconst k192_59 ?_
      refine ev_ixor k192_60 ?_
      refine ev_iand k192_61 ?_
      refine ev_ist1 k192_62 rfl ?_
      refine ev_goto k192_63 ?_
      have e6 : hRs S 0 nc np (nI r, t, a) = (nI (r + 2 ^ p), (if hDt S 0 nc p t = -1 then t else t ||| (1 <<< (hDt S 0 nc p t &&& 31))), upd a p (hDt S 0 nc p t)) := by
        unfold hRs
        dsimp only
        rw [hp2, nI_clamp (by omega), st1]
      rw [st2]
      have hJ2 : atJ I (mm_up K 92 (31 + 3 * p + 2) (hDt S 0 nc p t)) np (upd a p (hDt S 0 nc p t)) := by
        refine ⟨fun k a1 a2 a3 => ?_, fun j hj => ?_, fun p' hp' => ?_⟩
        · rw [mm_up_ne _ _ _ _ _ a1, hK k a2 a3]; exact hJ.1 k a1 a2 a3
        · rw [mm_up_at, if_neg (fun z => hj p hp1 z.2), hK 92 (by decide) (by decide)]; exact hJ.2.1 j hj
        · by_cases hpp : p' = p
          · subst hpp; simp [mm_up_at, upd]
          · rw [mm_up_at, if_neg (fun z => hpp (by omega)), hK 92 (by decide) (by decide), hJ.2.2 p' hp']; simp [upd, hpp]
      have hQ2 : ∀ J, atJ I J np (fo (fun _ q => hRs S 0 nc np q) n (i + 1) (hRs S 0 nc np (nI r, t, a))).2.2 → P J := hQ
      rw [e6] at hQ2
      first | (rw [if_pos (dneg h42)] at hQ2; rw [or0]; exact ih (i + 1) (r + 2 ^ p) t _ _ _ _ (by omega) st3 (by omega) rfl hJ2 hQ2) | (rw [if_neg (dpos h42)] at hQ2; exact ih (i + 1) (r + 2 ^ p) _ _ _ _ _ (by omega) st3 (by omega) rfl hJ2 hQ2)
    ·
      refine ev_iconst k192_45 ?_
      refine ev_ild4 k192_46 ?_
      refine ev_ishl k192_48 ?_
      refine ev_goto k192_49 ?_
      refine ev_ior k192_53 ?_
      refine ev_ist2 k192_54 rfl ?_
      refine ev_ild1 k192_55 ?_
      refine ev_iconst k192_56 ?_
      refine ev_ild3 k192_57 ?_
      refine ev_ishl k192_58 ?_
      refine ev_iconst k192_59 ?_
      refine ev_ixor k192_60 ?_
      refine ev_iand k192_61 ?_
      refine ev_ist1 k192_62 rfl ?_
      refine ev_goto k192_63 ?_
      have e6 : hRs S 0 nc np (nI r, t, a) = (nI (r + 2 ^ p), (if hDt S 0 nc p t = -1 then t else t ||| (1 <<< (hDt S 0 nc p t &&& 31))), upd a p (hDt S 0 nc p t)) := by
        unfold hRs
        dsimp only
        rw [hp2, nI_clamp (by omega), st1]
      rw [st2]
      have hJ2 : atJ I (mm_up K 92 (31 + 3 * p + 2) (hDt S 0 nc p t)) np (upd a p (hDt S 0 nc p t)) := by
        refine ⟨fun k a1 a2 a3 => ?_, fun j hj => ?_, fun p' hp' => ?_⟩
        · rw [mm_up_ne _ _ _ _ _ a1, hK k a2 a3]; exact hJ.1 k a1 a2 a3
        · rw [mm_up_at, if_neg (fun z => hj p hp1 z.2), hK 92 (by decide) (by decide)]; exact hJ.2.1 j hj
        · by_cases hpp : p' = p
          · subst hpp; simp [mm_up_at, upd]
          · rw [mm_up_at, if_neg (fun z => hpp (by omega)), hK 92 (by decide) (by decide), hJ.2.2 p' hp']; simp [upd, hpp]
      have hQ2 : ∀ J, atJ I J np (fo (fun _ q => hRs S 0 nc np q) n (i + 1) (hRs S 0 nc np (nI r, t, a))).2.2 → P J := hQ
      rw [e6] at hQ2
      first | (rw [if_pos (dneg h42)] at hQ2; rw [or0]; exact ih (i + 1) (r + 2 ^ p) t _ _ _ _ (by omega) st3 (by omega) rfl hJ2 hQ2) | (rw [if_neg (dpos h42)] at hQ2; exact ih (i + 1) (r + 2 ^ p) _ _ _ _ _ (by omega) st3 (by omega) rfl hJ2 hQ2)
/-- Model.runs -/
theorem sm_runs {X : Nat × (Nat → Int32)} {d : Nat} {I : mm_I} {S : mm_I} {nc np : Nat} {P : mm_I → Prop} (rm : RM S I nc np) (ok : hOK S 0 nc) (sp : ∀ p, p < np → (-1 : Int32) < S 6 p) (tt : TR S I) (hQ : ∀ J, atJ I J np (hRn S 0 nc np) → P J) : mm_Ev mm_T0 X (d + 5) 192 0 (mm_ent 192 [.ref 91]) [] I (mm_pv P) := by
  show mm_Ev mm_T0 X (d + 5) 192 0 [.ref 91, .retAddr 0, .retAddr 0, .retAddr 0, .retAddr 0] [] I (mm_pv P)
  have tm := tM
  have tr := tR
  have hnp := rm.1.2.2.2.1
  refine ev_iconst k192_0 ?_
  refine ev_ald0 k192_1 ?_
  refine ev_getr k192_2 (by first | assumption | rfl) rfl rfl rfl ?_
  refine ev_iconst k192_5 ?_
  refine ev_ial (j := 3) k192_6 (by first | assumption | rfl) (by omega) rfl (vp_dec rfl) ?_
  rw [rm.1.2.2.1]
  refine ev_ishl k192_7 ?_
  refine ev_iconst k192_8 ?_
  refine ev_isub k192_9 ?_
  rw [set_mask ⟨np, by omega⟩]
  refine ev_ist1 k192_10 rfl ?_
  refine ev_iconst k192_11 ?_
  refine ev_ist2 k192_12 rfl ?_
  have h := lm_runs (X := X) (d := d) (P := P) rm ok sp tt np 0 0 0 (S 8) I (.retAddr 0) (.retAddr 0) (by omega) (Nat.pow_pos (by decide)) rfl rfl ⟨fun _ _ _ _ => rfl, fun _ _ => rfl, fun p hp => (rm.2.2.1 p hp).2.2⟩ hQ
  exact h
