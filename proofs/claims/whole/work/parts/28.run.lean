/-! To run -/
def hFs (I : mm_I) (hb : Nat) (r : Int32) (p : Nat) (q : Int32 × Int32) : Int32 × Int32 := if iB r (nI p) then q else if q.2 < I (hb + 6) p then (nI p, I (hb + 6) p) else q
def hFb (I : mm_I) (hb np : Nat) (r : Int32) : Int32 := (fo (hFs I hb r) np 0 (0, -1)).1
theorem hFb_in {I : mm_I} {hb np : Nat} {r : Int32} (h : 0 < np) : ∃ j : Nat, j < np ∧ hFb I hb np r = nI j := by
  have key : ∀ (n i : Nat) (q : Int32 × Int32), i + n = np → (∃ j : Nat, j < np ∧ q.1 = nI j) → ∃ j : Nat, j < np ∧ (fo (hFs I hb r) n i q).1 = nI j := by
    intro n
    induction n with
    | zero => intro i q _ hq; exact hq
    | succ n ih =>
      intro i q hi hq
      refine ih (i + 1) _ (by omega) ?_
      unfold hFs
      split
      · exact hq
      · split
        · exact ⟨i, by omega, rfl⟩
        · exact hq
  exact key np 0 _ (by omega) ⟨0, h, rfl⟩
def hDz (I : mm_I) (hb p c : Nat) : Int32 := hZl I hb (bI (hFor I hb c (I (hb + 7) p))) (nI c) (I (hb + 6) p)
def hDs (I : mm_I) (hb p : Nat) (t : Int32) (c : Nat) (q : Int32 × Int32) : Int32 × Int32 := if iB t (nI c) then q else if q.1 = -1 then (nI c, hDz I hb p c) else if q.2 < hDz I hb p c then (nI c, hDz I hb p c) else q
def hDt (I : mm_I) (hb nc p : Nat) (t : Int32) : Int32 := (fo (hDs I hb p t) nc 0 (-1, 0)).1
theorem hDt_in {I : mm_I} {hb nc p : Nat} {t : Int32} : hDt I hb nc p t = -1 ∨ ∃ j : Nat, j < nc ∧ hDt I hb nc p t = nI j := by
  have key : ∀ (n i : Nat) (q : Int32 × Int32), i + n = nc → (q.1 = -1 ∨ ∃ j : Nat, j < nc ∧ q.1 = nI j) → ((fo (hDs I hb p t) n i q).1 = -1 ∨ ∃ j : Nat, j < nc ∧ (fo (hDs I hb p t) n i q).1 = nI j) := by
    intro n
    induction n with
    | zero => intro i q _ hq; exact hq
    | succ n ih =>
      intro i q hi hq
      refine ih (i + 1) _ (by omega) ?_
      unfold hDs
      split
      · exact hq
      · split
        · exact Or.inr ⟨i, by omega, rfl⟩
        · split
          · exact Or.inr ⟨i, by omega, rfl⟩
          · exact hq
  exact key nc 0 _ (by omega) (Or.inl rfl)
theorem hDz_congr {I J : mm_I} {hb : Nat} (h : ∀ k, k ≠ hb + 5 → k ≠ hb + 8 → k ≠ hb + 12 → k ≠ hb + 16 → J k = I k) (p c : Nat) : hDz J hb p c = hDz I hb p c := by
  unfold hDz hZl hFor hL1
  rw [h (hb + 15) (by omega) (by omega) (by omega) (by omega), h (hb + 14) (by omega) (by omega) (by omega) (by omega), h (hb + 3) (by omega) (by omega) (by omega) (by omega), h (hb + 4) (by omega) (by omega) (by omega) (by omega), h (hb + 7) (by omega) (by omega) (by omega) (by omega), h (hb + 6) (by omega) (by omega) (by omega) (by omega)]
theorem hOK_congr2 {I J : mm_I} {hb nc : Nat} (h : ∀ k, k ≠ hb + 5 → k ≠ hb + 8 → k ≠ hb + 12 → k ≠ hb + 16 → J k = I k) (ok : hOK I hb nc) : hOK J hb nc := by
  unfold hOK hK hL0 hL1 at *
  rw [h (hb + 1) (by omega) (by omega) (by omega) (by omega), h (hb + 11) (by omega) (by omega) (by omega) (by omega), h (hb + 10) (by omega) (by omega) (by omega) (by omega), h hb (by omega) (by omega) (by omega) (by omega), h (hb + 9) (by omega) (by omega) (by omega) (by omega), h (hb + 13) (by omega) (by omega) (by omega) (by omega), h (hb + 14) (by omega) (by omega) (by omega) (by omega), h (hb + 15) (by omega) (by omega) (by omega) (by omega)]
  exact ok
theorem lp_fastestBut {X : Nat × (Nat → Int32)} {d : Nat} {I : mm_I} {hb np : Nat} {r : Int32} {P : Int32 → mm_I → Prop} (hh : hH hb) (hm : I hb 7 = nI np) (hp : np ≤ 6)  : ∀ (n i : Nat) (b : Int32) (bs : Int32), i + n = np → P (fo (hFs I hb r) n i (b, bs)).1 I → mm_Ev mm_T0 X (d + 1) 35 7 [.ref hb, .int r, .int b, .int bs, .int (nI i)] [] I (mm_pi P) := by
  have t0 := tH0 hh
  have t6 := tH6 hh
  have hbl := hH_lt hh
  intro n
  induction n with
  | zero =>
    intro i b bs hi hQ
    have e : i = np := by omega
    subst e
    refine ev_ild4 k35_7 ?_
    refine ev_ald0 k35_9 ?_
    refine ev_gf (j := 7) k35_10 (by first | assumption | rfl) rfl rfl rfl rfl ?_
    rw [hm]
    refine ev_jcmp_ge k35_13 (fun h13 => ?_) (fun h13 => absurd h13 (nI_nlt (Nat.le_refl _) (by omega)))
    refine ev_ild2 k35_53 ?_
    refine ev_ri k35_54 rfl ?_
    exact hQ
  | succ n ih =>
    intro i b bs hi hQ
    have hlt : i < np := by omega
    refine ev_ild4 k35_7 ?_
    refine ev_ald0 k35_9 ?_
    refine ev_gf (j := 7) k35_10 (by first | assumption | rfl) rfl rfl rfl rfl ?_
    rw [hm]
    refine ev_jcmp_ge k35_13 (fun h13 => absurd (nI_lt hlt (by omega)) h13) (fun h13 => ?_)
    refine ev_ild1 k35_16 ?_
    refine ev_ild4 k35_17 ?_
    refine ev_cS2i k35_19 cs_108 rfl rfl rfl ?_
    refine sp_isIn ?_
    refine ev_ifz_ne k35_22 (fun h22 => ?_) (fun h22 => ?_)
    ·
      refine ev_inc4 k35_47 rfl ?_
      refine ev_goto k35_50 ?_
      rw [nI_1]
      refine ih (i + 1) _ _ (by omega) ?_
      first | (simp only [fo, hFs, h22, if_true] at hQ; exact hQ) | (simp only [fo, hFs, h22, h33, if_true, if_false, Bool.false_eq_true] at hQ; exact hQ)
    ·
      refine ev_ald0 k35_25 ?_
      refine ev_getr k35_26 (by first | assumption | rfl) rfl rfl rfl ?_
      refine ev_ild4 k35_29 ?_
      refine ev_ial (j := i) k35_31 (by first | assumption | rfl) (by omega) (nI_clamp (by omega)) (vp_in_nI (show i < 6 by omega) (by omega)) ?_
      refine ev_ild3 k35_32 ?_
      refine ev_jcmp_le k35_33 (fun h33 => ?_) (fun h33 => ?_)
      ·
        refine ev_inc4 k35_47 rfl ?_
        refine ev_goto k35_50 ?_
        rw [nI_1]
        refine ih (i + 1) _ _ (by omega) ?_
        first | (simp only [fo, hFs, h22, if_true] at hQ; exact hQ) | (simp only [fo, hFs, h22, h33, if_true, if_false, Bool.false_eq_true] at hQ; exact hQ)
      ·
        refine ev_ild4 k35_36 ?_
        refine ev_ist2 k35_38 rfl ?_
        refine ev_ald0 k35_39 ?_
        refine ev_getr k35_40 (by first | assumption | rfl) rfl rfl rfl ?_
        refine ev_ild4 k35_43 ?_
        refine ev_ial (j := i) k35_45 (by first | assumption | rfl) (by omega) (nI_clamp (by omega)) (vp_in_nI (show i < 6 by omega) (by omega)) ?_
        refine ev_ist3 k35_46 rfl ?_
        refine ev_inc4 k35_47 rfl ?_
        refine ev_goto k35_50 ?_
        rw [nI_1]
        refine ih (i + 1) _ _ (by omega) ?_
        first | (simp only [fo, hFs, h22, if_true] at hQ; exact hQ) | (simp only [fo, hFs, h22, h33, if_true, if_false, Bool.false_eq_true] at hQ; exact hQ)
/-- House.fastestBut -/
theorem sp_fastestBut {X : Nat × (Nat → Int32)} {d : Nat} {I : mm_I} {hb np : Nat} {r : Int32} {P : Int32 → mm_I → Prop} (hh : hH hb) (hm : I hb 7 = nI np) (hp : np ≤ 6) (hQ : P (hFb I hb np r) I) : mm_Ev mm_T0 X (d + 1) 35 0 (mm_ent 35 [.ref hb, .int r]) [] I (mm_pi P) := by
  show mm_Ev mm_T0 X (d + 1) 35 0 [.ref hb, .int r, .retAddr 0, .retAddr 0, .retAddr 0] [] I (mm_pi P)
  refine ev_iconst k35_0 ?_
  refine ev_ist2 k35_1 rfl ?_
  refine ev_iconst k35_2 ?_
  refine ev_ist3 k35_3 rfl ?_
  refine ev_iconst k35_4 ?_
  refine ev_ist4 k35_5 rfl ?_
  exact lp_fastestBut hh hm hp np 0 0 (-1) (by omega) hQ
theorem lp_dearestTo {X : Nat × (Nat → Int32)} {d : Nat} {I : mm_I} {hb nc p : Nat} {t : Int32} {P : Int32 → mm_I → Prop} (hh : hH hb) (ok : hOK I hb nc) (hp6 : p < 6)  : ∀ (n i : Nat) (b : Int32) (z : Int32) (g : Nat → Int32) (v6 : Value) (v7 : Value), i + n = nc → v6.category = 1 → (∀ g, P (fo (hDs I hb p t) n i (b, z)).1 (mm_rp I (hb + 16) g)) → mm_Ev mm_T0 X (d + 3) 36 8 [.ref hb, .int (nI p), .int t, .int b, .int z, .int (nI i), v6, v7] [] (mm_rp I (hb + 16) g) (mm_pi P) := by
  have t0 := tH0 hh
  have t3 := tH3 hh
  have t4 := tH4 hh
  have t6 := tH6 hh
  have t7 := tH7 hh
  have t13 := tH13 hh
  have t14 := tH14 hh
  have t15 := tH15 hh
  have t16 := tH16 hh
  have hbl := hH_lt hh
  intro n
  induction n with
  | zero =>
    intro i b z g v6 v7 hi hv6 hQ
    have h66 := ok.2.1
    have e : i = nc := by omega
    subst e
    refine ev_ild5 k36_8 ?_
    refine ev_ald0 k36_10 ?_
    refine ev_gf (j := 1) k36_11 (by first | assumption | rfl) rfl rfl rfl rfl ?_
    rw [mm_rp_ne _ _ _ (show hb ≠ hb + 16 by omega), ok.1]
    refine ev_jcmp_ge k36_14 (fun h14 => ?_) (fun h14 => absurd h14 (nI_nlt (Nat.le_refl _) (by omega)))
    refine ev_ild3 k36_92 ?_
    refine ev_ri k36_93 rfl ?_
    exact hQ g
  | succ n ih =>
    intro i b z g v6 v7 hi hv6 hQ
    have hlt : i < nc := by omega
    have h66 := ok.2.1
    refine ev_ild5 k36_8 ?_
    refine ev_ald0 k36_10 ?_
    refine ev_gf (j := 1) k36_11 (by first | assumption | rfl) rfl rfl rfl rfl ?_
    rw [mm_rp_ne _ _ _ (show hb ≠ hb + 16 by omega), ok.1]
    refine ev_jcmp_ge k36_14 (fun h14 => absurd (nI_lt hlt (by omega)) h14) (fun h14 => ?_)
    refine ev_ild2 k36_17 ?_
    refine ev_ild5 k36_18 ?_
    refine ev_cS2i k36_20 cs_108 rfl rfl rfl ?_
    refine sp_isIn ?_
    refine ev_ifz_ne k36_23 (fun h23 => ?_) (fun h23 => ?_)
    ·
      refine ev_inc5 k36_86 rfl ?_
      refine ev_goto k36_89 ?_
      rw [nI_1]
      refine ih (i + 1) _ _ _ _ _ (by omega) (by first | assumption | rfl) ?_
      first | (simp only [fo, hDs, h23, if_true] at hQ; with_reducible exact hQ) | (simp only [fo, hDs, h23, h69, if_true, if_false, Bool.false_eq_true] at hQ; with_reducible exact hQ) | (simp only [fo, hDs, h23, h69, h76, if_true, if_false, Bool.false_eq_true] at hQ; with_reducible exact hQ)
    ·
      refine ev_ald0 k36_26 ?_
      refine ev_ild5 k36_27 ?_
      refine ev_ald0 k36_29 ?_
      refine ev_getr k36_30 (by first | assumption | rfl) rfl rfl rfl ?_
      refine ev_ild1 k36_33 ?_
      refine ev_ial (j := p) k36_34 (by first | assumption | rfl) (by omega) (nI_clamp (by omega)) (vp_in_nI hp6 (by omega)) ?_
      refine ev_cV3i k36_35 cs_119 (by first | assumption | rfl) (by omega) (Nat.le_of_ble_eq_true rfl) rfl rfl rfl ?_
      refine sp_isFor hh (by omega) ?_
      rw [show hFor (mm_rp I (hb + 16) g) hb i (mm_rp I (hb + 16) g (hb + 7) p) = hFor I hb i (I (hb + 7) p) by unfold hFor; rw [mm_rp_ne _ _ _ (show hb + 3 ≠ hb + 16 by omega), mm_rp_ne _ _ _ (show hb + 4 ≠ hb + 16 by omega), mm_rp_ne _ _ _ (show hb + 7 ≠ hb + 16 by omega)]]
      refine ev_ifz_eq k36_38 (fun h38 => ?_) (fun h38 => ?_)
      ·
        refine ev_iconst k36_45 ?_
        refine ev_ist6 k36_46 rfl ?_
        refine ev_ald0 k36_48 ?_
        refine ev_getr k36_49 (by first | assumption | rfl) rfl rfl rfl ?_
        refine ev_ild6 k36_52 ?_
        refine ev_ild5 k36_54 ?_
        refine ev_ald0 k36_56 ?_
        refine ev_getr k36_57 (by first | assumption | rfl) rfl rfl rfl ?_
        refine ev_ild1 k36_60 ?_
        refine ev_ial (j := p) k36_61 (by first | assumption | rfl) (by omega) (nI_clamp (by omega)) (vp_in_nI hp6 (by omega)) ?_
        refine ev_cV4i k36_62 cs_110 (by first | assumption | rfl) (by omega) (Nat.le_of_ble_eq_true rfl) rfl rfl rfl ?_
        have ok4 := ok.2.2.2.2
        refine sp_gives t13 t14 t15 t16 (by omega) (l := hL1 I hb) (by rw [mm_rp_ne _ _ _ (show hb + 13 + 1 ≠ hb + 16 by omega)]; exact ok4.1) ok4.2.1.2.1 ?_
        rw [show mm_rp I (hb + 16) g (hb + 13 + 2) = I (hb + 15) from mm_rp_ne _ _ _ (by omega), tx_eq ok4.2.1, mm_rp_ne _ _ _ (show hb + 13 ≠ hb + 16 by omega), ok4.2.2.1, ok4.2.2.2, mm_rp_ne _ _ _ (show hb + 6 ≠ hb + 16 by omega)]
        generalize (tv (I (hb + 15)) _ _ _ _ _ _).2 = g2
        have e3 : mm_rp (mm_rp I (hb + 16) g) (hb + 13 + 3) g2 = mm_rp I (hb + 16) g2 := by funext k; by_cases hk : k = hb + 16 <;> simp [mm_rp, hk]
        rw [e3]
        first | rw [show clp (-99) 99 (tx (I (hb + 15)) (hL1 I hb) 1 (nI i) (I (hb + 6) p)) = hDz I hb p i by (unfold hDz hZl; rw [h38]; rfl)] | rw [show clp (-99) 99 (tx (I (hb + 15)) (hL1 I hb) 0 (nI i) (I (hb + 6) p)) = hDz I hb p i by (unfold hDz hZl; rw [h38]; rfl)]
        refine ev_ist7 k36_65 rfl ?_
        refine ev_ild3 k36_67 ?_
        refine ev_iconst k36_68 ?_
        refine ev_icmp_eq k36_69 (fun h69 => ?_) (fun h69 => ?_)
        ·
          refine ev_ild5 k36_79 ?_
          refine ev_ist3 k36_81 rfl ?_
          refine ev_ild7 k36_82 ?_
          refine ev_ist4 k36_84 rfl ?_
          refine ev_inc5 k36_86 rfl ?_
          refine ev_goto k36_89 ?_
          rw [nI_1]
          refine ih (i + 1) _ _ _ _ _ (by omega) (by first | assumption | rfl) ?_
          first | (simp only [fo, hDs, h23, if_true] at hQ; with_reducible exact hQ) | (simp only [fo, hDs, h23, h69, if_true, if_false, Bool.false_eq_true] at hQ; with_reducible exact hQ) | (simp only [fo, hDs, h23, h69, h76, if_true, if_false, Bool.false_eq_true] at hQ; with_reducible exact hQ)
        ·
          refine ev_ild7 k36_72 ?_
          refine ev_ild4 k36_74 ?_
          refine ev_jcmp_le k36_76 (fun h76 => ?_) (fun h76 => ?_)
          ·
            refine ev_inc5 k36_86 rfl ?_
            refine ev_goto k36_89 ?_
            rw [nI_1]
            refine ih (i + 1) _ _ _ _ _ (by omega) (by first | assumption | rfl) ?_
            first | (simp only [fo, hDs, h23, if_true] at hQ; with_reducible exact hQ) | (simp only [fo, hDs, h23, h69, if_true, if_false, Bool.false_eq_true] at hQ; with_reducible exact hQ) | (simp only [fo, hDs, h23, h69, h76, if_true, if_false, Bool.false_eq_true] at hQ; with_reducible exact hQ)
          ·
            refine ev_ild5 k36_79 ?_
            refine ev_ist3 k36_81 rfl ?_
            refine ev_ild7 k36_82 ?_
            refine ev_ist4 k36_84 rfl ?_
            refine ev_inc5 k36_86 rfl ?_
            refine ev_goto k36_89 ?_
            rw [nI_1]
            refine ih (i + 1) _ _ _ _ _ (by omega) (by first | assumption | rfl) ?_
            first | (simp only [fo, hDs, h23, if_true] at hQ; with_reducible exact hQ) | (simp only [fo, hDs, h23, h69, if_true, if_false, Bool.false_eq_true] at hQ; with_reducible exact hQ) | (simp only [fo, hDs, h23, h69, h76, if_true, if_false, Bool.false_eq_true] at hQ; with_reducible exact hQ)
      ·
        refine ev_iconst k36_41 ?_
        refine ev_goto k36_42 ?_
        refine ev_ist6 k36_46 rfl ?_
        refine ev_ald0 k36_48 ?_
        refine ev_getr k36_49 (by first | assumption | rfl) rfl rfl rfl ?_
        refine ev_ild6 k36_52 ?_
        refine ev_ild5 k36_54 ?_
        refine ev_ald0 k36_56 ?_
        refine ev_getr k36_57 (by first | assumption | rfl) rfl rfl rfl ?_
        refine ev_ild1 k36_60 ?_
        refine ev_ial (j := p) k36_61 (by first | assumption | rfl) (by omega) (nI_clamp (by omega)) (vp_in_nI hp6 (by omega)) ?_
        refine ev_cV4i k36_62 cs_110 (by first | assumption | rfl) (by omega) (Nat.le_of_ble_eq_true rfl) rfl rfl rfl ?_
        have ok4 := ok.2.2.2.2
        refine sp_gives t13 t14 t15 t16 (by omega) (l := hL1 I hb) (by rw [mm_rp_ne _ _ _ (show hb + 13 + 1 ≠ hb + 16 by omega)]; exact ok4.1) ok4.2.1.2.1 ?_
        rw [show mm_rp I (hb + 16) g (hb + 13 + 2) = I (hb + 15) from mm_rp_ne _ _ _ (by omega), tx_eq ok4.2.1, mm_rp_ne _ _ _ (show hb + 13 ≠ hb + 16 by omega), ok4.2.2.1, ok4.2.2.2, mm_rp_ne _ _ _ (show hb + 6 ≠ hb + 16 by omega)]
        generalize (tv (I (hb + 15)) _ _ _ _ _ _).2 = g2
        have e3 : mm_rp (mm_rp I (hb + 16) g) (hb + 13 + 3) g2 = mm_rp I (hb + 16) g2 := by funext k; by_cases hk : k = hb + 16 <;> simp [mm_rp, hk]
        rw [e3]
        first | rw [show clp (-99) 99 (tx (I (hb + 15)) (hL1 I hb) 1 (nI i) (I (hb + 6) p)) = hDz I hb p i by (unfold hDz hZl; rw [h38]; rfl)] | rw [show clp (-99) 99 (tx (I (hb + 15)) (hL1 I hb) 0 (nI i) (I (hb + 6) p)) = hDz I hb p i by (unfold hDz hZl; rw [h38]; rfl)]
        refine ev_ist7 k36_65 rfl ?_
        refine ev_ild3 k36_67 ?_
        refine ev_iconst k36_68 ?_
        refine ev_icmp_eq k36_69 (fun h69 => ?_) (fun h69 => ?_)
        ·
          refine ev_ild5 k36_79 ?_
          refine ev_ist3 k36_81 rfl ?_
          refine ev_ild7 k36_82 ?_
          refine ev_ist4 k36_84 rfl ?_
          refine ev_inc5 k36_86 rfl ?_
          refine ev_goto k36_89 ?_
          rw [nI_1]
          refine ih (i + 1) _ _ _ _ _ (by omega) (by first | assumption | rfl) ?_
          first | (simp only [fo, hDs, h23, if_true] at hQ; with_reducible exact hQ) | (simp only [fo, hDs, h23, h69, if_true, if_false, Bool.false_eq_true] at hQ; with_reducible exact hQ) | (simp only [fo, hDs, h23, h69, h76, if_true, if_false, Bool.false_eq_true] at hQ; with_reducible exact hQ)
        ·
          refine ev_ild7 k36_72 ?_
          refine ev_ild4 k36_74 ?_
          refine ev_jcmp_le k36_76 (fun h76 => ?_) (fun h76 => ?_)
          ·
            refine ev_inc5 k36_86 rfl ?_
            refine ev_goto k36_89 ?_
            rw [nI_1]
            refine ih (i + 1) _ _ _ _ _ (by omega) (by first | assumption | rfl) ?_
            first | (simp only [fo, hDs, h23, if_true] at hQ; with_reducible exact hQ) | (simp only [fo, hDs, h23, h69, if_true, if_false, Bool.false_eq_true] at hQ; with_reducible exact hQ) | (simp only [fo, hDs, h23, h69, h76, if_true, if_false, Bool.false_eq_true] at hQ; with_reducible exact hQ)
          ·
            refine ev_ild5 k36_79 ?_
            refine ev_ist3 k36_81 rfl ?_
            refine ev_ild7 k36_82 ?_
            refine ev_ist4 k36_84 rfl ?_
            refine ev_inc5 k36_86 rfl ?_
            refine ev_goto k36_89 ?_
            rw [nI_1]
            refine ih (i + 1) _ _ _ _ _ (by omega) (by first | assumption | rfl) ?_
            first | (simp only [fo, hDs, h23, if_true] at hQ; with_reducible exact hQ) | (simp only [fo, hDs, h23, h69, if_true, if_false, Bool.false_eq_true] at hQ; with_reducible exact hQ) | (simp only [fo, hDs, h23, h69, h76, if_true, if_false, Bool.false_eq_true] at hQ; with_reducible exact hQ)
/-- House.dearestTo -/
theorem sp_dearestTo {X : Nat × (Nat → Int32)} {d : Nat} {I : mm_I} {hb nc p : Nat} {t : Int32} {P : Int32 → mm_I → Prop} (hh : hH hb) (ok : hOK I hb nc) (hp6 : p < 6) (hQ : ∀ g, P (hDt I hb nc p t) (mm_rp I (hb + 16) g)) : mm_Ev mm_T0 X (d + 3) 36 0 (mm_ent 36 [.ref hb, .int (nI p), .int t]) [] I (mm_pi P) := by
  show mm_Ev mm_T0 X (d + 3) 36 0 [.ref hb, .int (nI p), .int t, .retAddr 0, .retAddr 0, .retAddr 0, .retAddr 0, .retAddr 0] [] I (mm_pi P)
  refine ev_iconst k36_0 ?_
  refine ev_ist3 k36_1 rfl ?_
  refine ev_iconst k36_2 ?_
  refine ev_ist4 k36_3 rfl ?_
  refine ev_iconst k36_5 ?_
  refine ev_ist5 k36_6 rfl ?_
  have h := lp_dearestTo (X := X) (d := d) (t := t) (P := P) hh ok hp6 nc 0 (-1) 0 (I (hb + 16)) (.retAddr 0) (.retAddr 0) (by omega) rfl hQ
  rw [mm_rp_self] at h
  exact h
