/-! The house: who sits where, weights, votes -/
def hK (I : mm_I) (hb c : Nat) : Nat := (I (hb + 1) c).toNatClampNeg
def hSt (I : mm_I) (hb np : Nat) (c : Int32) : Int32 := match fnd (fun p => decide (I (hb + 8) p = c)) np 0 with
  | some p => nI p
  | none => -1
def hTs (a : Nat → Int32) (p : Nat) (t : Int32) : Int32 := if a p = -1 then t else t ||| (1 <<< (a p &&& 31))
def hTk (I : mm_I) (hb np : Nat) : Int32 := fo (hTs (I (hb + 8))) np 0 0
def hL0 (I : mm_I) (hb : Nat) : Nat := (I (hb + 10) 2).toNatClampNeg
def hL1 (I : mm_I) (hb : Nat) : Nat := (I (hb + 14) 2).toNatClampNeg
def hGv (I : mm_I) (hb : Nat) (a b c : Int32) : Int32 := clp 0 99 (tx (I (hb + 11)) (hL0 I hb) a b c)
def hZl (I : mm_I) (hb : Nat) (a b c : Int32) : Int32 := clp (-99) 99 (tx (I (hb + 15)) (hL1 I hb) a b c)
def hWt (I : mm_I) (hb c : Nat) : Int32 := hHf (hK I hb c) (hGv I hb (bc (I (hb + 3) c)) (bc (I (hb + 4) c)) (I hb 16)) (I (hb + 2) c)
/-- the house's chairs and texts are in order -/
def hOK (I : mm_I) (hb nc : Nat) : Prop := I hb 1 = nI nc ∧ nc ≤ 6 ∧ (∀ c, c < nc → I (hb + 1) c = nI (hK I hb c) ∧ hK I hb c < 7) ∧ (I (hb + 10) 2 = nI (hL0 I hb) ∧ tWF (I (hb + 11)) (hL0 I hb) ∧ I (hb + 9) 2 = 0 ∧ I (hb + 9) 3 = 99) ∧ (I (hb + 14) 2 = nI (hL1 I hb) ∧ tWF (I (hb + 15)) (hL1 I hb) ∧ I (hb + 13) 2 = -99 ∧ I (hb + 13) 3 = 99)
theorem hNx_lt {I : mm_I} {hb nc c : Nat} (h : I hb 1 = nI nc) (h6 : nc ≤ 6) (hc : c < nc) : hNx I hb c < nc := by
  unfold hNx
  rw [h, nI_1]
  by_cases hl : nI (c + 1) < nI nc
  · rw [if_pos hl]
    exact (nI_ltI (by omega) (by omega)).mp hl
  · rw [if_neg hl]
    omega
theorem lp_sitterOf {X : Nat × (Nat → Int32)} {d : Nat} {I : mm_I} {hb np : Nat} {c : Int32} {P : Int32 → mm_I → Prop} (hh : hH hb) (hm : I hb 7 = nI np) (hp : np ≤ 6)  : ∀ (n i : Nat) , i + n = np → P (match fnd (fun p => decide (I (hb + 8) p = c)) n i with | some p => nI p | none => -1) I → mm_Ev mm_T0 X (d) 24 2 [.ref hb, .int c, .int (nI i)] [] I (mm_pi P) := by
  have t0 := tH0 hh
  have t8 := tH8 hh
  have hbl := hH_lt hh
  intro n
  induction n with
  | zero =>
    intro i  hi hQ
    have e : i = np := by omega
    subst e
    refine ev_ild2 k24_2 ?_
    refine ev_ald0 k24_3 ?_
    refine ev_gf (j := 7) k24_4 (by first | assumption | rfl) rfl rfl rfl rfl ?_
    rw [hm]
    refine ev_jcmp_ge k24_7 (fun h7 => ?_) (fun h7 => absurd h7 (nI_nlt (Nat.le_refl _) (by omega)))
    refine ev_iconst k24_28 ?_
    refine ev_ri k24_29 rfl ?_
    exact hQ
  | succ n ih =>
    intro i  hi hQ
    have hlt : i < np := by omega
    refine ev_ild2 k24_2 ?_
    refine ev_ald0 k24_3 ?_
    refine ev_gf (j := 7) k24_4 (by first | assumption | rfl) rfl rfl rfl rfl ?_
    rw [hm]
    refine ev_jcmp_ge k24_7 (fun h7 => absurd (nI_lt hlt (by omega)) h7) (fun h7 => ?_)
    refine ev_ald0 k24_10 ?_
    refine ev_getr k24_11 (by first | assumption | rfl) rfl rfl rfl ?_
    refine ev_ild2 k24_14 ?_
    refine ev_ial (j := i) k24_15 (by first | assumption | rfl) (by omega) (nI_clamp (by omega)) (vp_in_nI (show i < 6 by omega) (by omega)) ?_
    refine ev_ild1 k24_16 ?_
    refine ev_icmp_ne k24_17 (fun h17 => ?_) (fun h17 => ?_)
    ·
      refine ev_inc2 k24_22 rfl ?_
      refine ev_goto k24_25 ?_
      rw [nI_1]
      refine ih (i + 1) (by omega) ?_
      simp only [fnd, h17, decide_false, Bool.false_eq_true, if_false] at hQ
      exact hQ
    ·
      refine ev_ild2 k24_20 ?_
      refine ev_ri k24_21 rfl ?_
      simp only [fnd, h17, decide_true, if_true] at hQ
      exact hQ
/-- House.sitterOf -/
theorem sp_sitterOf {X : Nat × (Nat → Int32)} {d : Nat} {I : mm_I} {hb np : Nat} {c : Int32} {P : Int32 → mm_I → Prop} (hh : hH hb) (hm : I hb 7 = nI np) (hp : np ≤ 6) (hQ : P (hSt I hb np c) I) : mm_Ev mm_T0 X (d) 24 0 (mm_ent 24 [.ref hb, .int c]) [] I (mm_pi P) := by
  show mm_Ev mm_T0 X (d) 24 0 [.ref hb, .int c, .retAddr 0] [] I (mm_pi P)
  refine ev_iconst k24_0 ?_
  refine ev_ist2 k24_1 rfl ?_
  exact lp_sitterOf hh hm hp np 0 (by omega) hQ
theorem lp_taken {X : Nat × (Nat → Int32)} {d : Nat} {I : mm_I} {hb np : Nat} {P : Int32 → mm_I → Prop} (hh : hH hb) (hm : I hb 7 = nI np) (hp : np ≤ 6)  : ∀ (n i : Nat) (t : Int32), i + n = np → P (fo (hTs (I (hb + 8))) n i t) I → mm_Ev mm_T0 X (d) 25 4 [.ref hb, .int t, .int (nI i)] [] I (mm_pi P) := by
  have t0 := tH0 hh
  have t8 := tH8 hh
  have hbl := hH_lt hh
  intro n
  induction n with
  | zero =>
    intro i t hi hQ
    have e : i = np := by omega
    subst e
    refine ev_ild2 k25_4 ?_
    refine ev_ald0 k25_5 ?_
    refine ev_gf (j := 7) k25_6 (by first | assumption | rfl) rfl rfl rfl rfl ?_
    rw [hm]
    refine ev_jcmp_ge k25_9 (fun h9 => ?_) (fun h9 => absurd h9 (nI_nlt (Nat.le_refl _) (by omega)))
    refine ev_ild1 k25_39 ?_
    refine ev_ri k25_40 rfl ?_
    exact hQ
  | succ n ih =>
    intro i t hi hQ
    have hlt : i < np := by omega
    refine ev_ild2 k25_4 ?_
    refine ev_ald0 k25_5 ?_
    refine ev_gf (j := 7) k25_6 (by first | assumption | rfl) rfl rfl rfl rfl ?_
    rw [hm]
    refine ev_jcmp_ge k25_9 (fun h9 => absurd (nI_lt hlt (by omega)) h9) (fun h9 => ?_)
    refine ev_ald0 k25_12 ?_
    refine ev_getr k25_13 (by first | assumption | rfl) rfl rfl rfl ?_
    refine ev_ild2 k25_16 ?_
    refine ev_ial (j := i) k25_17 (by first | assumption | rfl) (by omega) (nI_clamp (by omega)) (vp_in_nI (show i < 6 by omega) (by omega)) ?_
    refine ev_iconst k25_18 ?_
    refine ev_icmp_eq k25_19 (fun h19 => ?_) (fun h19 => ?_)
    ·
      refine ev_inc2 k25_33 rfl ?_
      refine ev_goto k25_36 ?_
      rw [nI_1]
      refine ih (i + 1) _ (by omega) ?_
      simp only [fo, hTs, h19, if_true, if_false] at hQ
      exact hQ
    ·
      refine ev_ild1 k25_22 ?_
      refine ev_iconst k25_23 ?_
      refine ev_ald0 k25_24 ?_
      refine ev_getr k25_25 (by first | assumption | rfl) rfl rfl rfl ?_
      refine ev_ild2 k25_28 ?_
      refine ev_ial (j := i) k25_29 (by first | assumption | rfl) (by omega) (nI_clamp (by omega)) (vp_in_nI (show i < 6 by omega) (by omega)) ?_
      refine ev_ishl k25_30 ?_
      refine ev_ior k25_31 ?_
      refine ev_ist1 k25_32 rfl ?_
      refine ev_inc2 k25_33 rfl ?_
      refine ev_goto k25_36 ?_
      rw [nI_1]
      refine ih (i + 1) _ (by omega) ?_
      simp only [fo, hTs, h19, if_true, if_false] at hQ
      exact hQ
/-- House.taken -/
theorem sp_taken {X : Nat × (Nat → Int32)} {d : Nat} {I : mm_I} {hb np : Nat} {P : Int32 → mm_I → Prop} (hh : hH hb) (hm : I hb 7 = nI np) (hp : np ≤ 6) (hQ : P (hTk I hb np) I) : mm_Ev mm_T0 X (d) 25 0 (mm_ent 25 [.ref hb]) [] I (mm_pi P) := by
  show mm_Ev mm_T0 X (d) 25 0 [.ref hb, .retAddr 0, .retAddr 0] [] I (mm_pi P)
  refine ev_iconst k25_0 ?_
  refine ev_ist1 k25_1 rfl ?_
  refine ev_iconst k25_2 ?_
  refine ev_ist2 k25_3 rfl ?_
  exact lp_taken hh hm hp np 0 0 (by omega) hQ
/-- House.weigh -/
theorem sp_weigh {X : Nat × (Nat → Int32)} {d : Nat} {I : mm_I} {hb nc c : Nat} {P : Int32 → mm_I → Prop} (hh : hH hb) (ok : hOK I hb nc) (hc : c < nc) (hQ : ∀ g, P (hWt I hb c) (mm_rp I (hb + 12) g)) : mm_Ev mm_T0 X (d + 3) 28 0 (mm_ent 28 [.ref hb, .int (nI c)]) [] I (mm_pi P) := by
  show mm_Ev mm_T0 X (d + 3) 28 0 [.ref hb, .int (nI c), .retAddr 0] [] I (mm_pi P)
  have t0 := tH0 hh
  have t1 := tH1 hh
  have t2 := tH2 hh
  have t3 := tH3 hh
  have t4 := tH4 hh
  have t9 := tH9 hh
  have t10 := tH10 hh
  have t11 := tH11 hh
  have t12 := tH12 hh
  have hbl := hH_lt hh
  obtain ⟨ok1, ok2, ok3, ⟨ok4, ok5, ok6, ok7⟩, -⟩ := ok
  obtain ⟨hk, hk7⟩ := ok3 c hc
  refine ev_ald0 k28_0 ?_
  refine ev_getr k28_1 (by first | assumption | rfl) rfl rfl rfl ?_
  refine ev_ald0 k28_4 ?_
  refine ev_getr k28_5 (by first | assumption | rfl) rfl rfl rfl ?_
  refine ev_ild1 k28_8 ?_
  refine ev_ial (j := c) k28_9 (by first | assumption | rfl) (by omega) (nI_clamp (by omega)) (vp_in_nI (show c < 6 by omega) (by omega)) ?_
  refine ev_cS1i k28_10 cs_109 rfl rfl rfl ?_
  refine sp_bitCount ?_
  refine ev_ald0 k28_13 ?_
  refine ev_getr k28_14 (by first | assumption | rfl) rfl rfl rfl ?_
  refine ev_ild1 k28_17 ?_
  refine ev_ial (j := c) k28_18 (by first | assumption | rfl) (by omega) (nI_clamp (by omega)) (vp_in_nI (show c < 6 by omega) (by omega)) ?_
  refine ev_cS1i k28_19 cs_109 rfl rfl rfl ?_
  refine sp_bitCount ?_
  refine ev_ald0 k28_22 ?_
  refine ev_gf (j := 16) k28_23 (by first | assumption | rfl) rfl rfl rfl rfl ?_
  refine ev_cV4i k28_26 cs_110 (by first | assumption | rfl) (by omega) (Nat.le_of_ble_eq_true rfl) rfl rfl rfl ?_
  refine sp_gives t9 t10 t11 t12 (by omega) ok4 ok5.2.1 ?_
  have e1 := tx_eq ok5 (bc (I (hb + 3) c)) (bc (I (hb + 4) c)) (I hb 16) (I (hb + 9 + 3))
  rw [show I (hb + 9 + 2) = I (hb + 11) from rfl, e1, ok6, ok7]
  generalize (tv (I (hb + 11)) (bc (I (hb + 3) c)) (bc (I (hb + 4) c)) (I hb 16) (hL0 I hb) 0 (0, I (hb + 9 + 3))).2 = g
  refine ev_ist2 k28_29 rfl ?_
  refine ev_ald0 k28_30 ?_
  refine ev_ild1 k28_31 ?_
  refine ev_cV2r k28_32 cs_111 (by first | assumption | rfl) (by omega) (Nat.le_of_ble_eq_true rfl) rfl rfl rfl ?_
  refine sp_kindOf hh (by omega) (k := hK I hb c) (by rw [mm_rp_ne _ _ _ (show hb + 1 ≠ hb + 9 + 3 by omega)]; exact hk) hk7 ?_
  refine ev_ild2 k28_35 ?_
  refine ev_ald0 k28_36 ?_
  refine ev_getr k28_37 (by first | assumption | rfl) rfl rfl rfl ?_
  refine ev_ild1 k28_40 ?_
  refine ev_ial (j := c) k28_41 (by first | assumption | rfl) (by omega) (nI_clamp (by omega)) (vp_in_nI (show c < 6 by omega) (by omega)) ?_
  rw [mm_rp_ne _ _ _ (show hb + 2 ≠ hb + 9 + 3 by omega)]
  refine ev_hfV k28_42 hk7 rfl ?_
  refine ev_ri k28_45 rfl ?_
  exact hQ g
/-- the weights as they are found, chair by chair -/
def hWa (I : mm_I) (hb i : Nat) : Nat → Int32 := fun j => if j < i then hWt I hb j else I (hb + 5) j
def hWI (I : mm_I) (hb i : Nat) (g : Nat → Int32) : mm_I := mm_rp (mm_rp I (hb + 5) (hWa I hb i)) (hb + 12) g
theorem hWI_ne {I : mm_I} {hb i : Nat} {g : Nat → Int32} {k : Nat} (h1 : k ≠ hb + 5) (h2 : k ≠ hb + 12) : hWI I hb i g k = I k := by
  unfold hWI
  rw [mm_rp_ne _ _ _ h2, mm_rp_ne _ _ _ h1]
theorem hWt_congr {I J : mm_I} {hb : Nat} (h : ∀ k, k ≠ hb + 5 → k ≠ hb + 12 → J k = I k) (c : Nat) : hWt J hb c = hWt I hb c := by
  unfold hWt hK hGv hL0
  rw [h (hb + 1) (by omega) (by omega), h (hb + 11) (by omega) (by omega), h (hb + 10) (by omega) (by omega), h (hb + 3) (by omega) (by omega), h (hb + 4) (by omega) (by omega), h hb (by omega) (by omega), h (hb + 2) (by omega) (by omega)]
theorem hOK_congr {I J : mm_I} {hb nc : Nat} (h : ∀ k, k ≠ hb + 5 → k ≠ hb + 12 → k ≠ hb + 16 → J k = I k) (ok : hOK I hb nc) : hOK J hb nc := by
  unfold hOK hK hL0 hL1 at *
  rw [h (hb + 1) (by omega) (by omega) (by omega), h (hb + 11) (by omega) (by omega) (by omega), h (hb + 10) (by omega) (by omega) (by omega), h hb (by omega) (by omega) (by omega), h (hb + 9) (by omega) (by omega) (by omega), h (hb + 13) (by omega) (by omega) (by omega), h (hb + 14) (by omega) (by omega) (by omega), h (hb + 15) (by omega) (by omega) (by omega)]
  exact ok
theorem lp_weighAll {X : Nat × (Nat → Int32)} {d : Nat} {I : mm_I} {hb nc : Nat} {P : mm_I → Prop} (hh : hH hb) (ok : hOK I hb nc)  : ∀ (n i : Nat) (g : Nat → Int32), i + n = nc → (∀ g, P (hWI I hb nc g)) → mm_Ev mm_T0 X (d + 4) 29 2 [.ref hb, .int (nI i)] [] (hWI I hb i g) (mm_pv P) := by
  have t0 := tH0 hh
  have t5 := tH5 hh
  have hbl := hH_lt hh
  intro n
  induction n with
  | zero =>
    intro i g hi hQ
    have h66 := ok.2.1
    have e : i = nc := by omega
    subst e
    refine ev_ild1 k29_2 ?_
    refine ev_ald0 k29_3 ?_
    refine ev_gf (j := 1) k29_4 (by first | assumption | rfl) rfl rfl rfl rfl ?_
    rw [hWI_ne (show hb ≠ hb + 5 by omega) (show hb ≠ hb + 12 by omega), ok.1]
    refine ev_jcmp_ge k29_7 (fun h7 => ?_) (fun h7 => absurd h7 (nI_nlt (Nat.le_refl _) (by omega)))
    refine ev_rv k29_27 rfl ?_
    exact hQ g
  | succ n ih =>
    intro i g hi hQ
    have hlt : i < nc := by omega
    have h66 := ok.2.1
    refine ev_ild1 k29_2 ?_
    refine ev_ald0 k29_3 ?_
    refine ev_gf (j := 1) k29_4 (by first | assumption | rfl) rfl rfl rfl rfl ?_
    rw [hWI_ne (show hb ≠ hb + 5 by omega) (show hb ≠ hb + 12 by omega), ok.1]
    refine ev_jcmp_ge k29_7 (fun h7 => absurd (nI_lt hlt (by omega)) h7) (fun h7 => ?_)
    refine ev_ald0 k29_10 ?_
    refine ev_getr k29_11 (by first | assumption | rfl) rfl rfl rfl ?_
    refine ev_ild1 k29_14 ?_
    refine ev_ald0 k29_15 ?_
    refine ev_ild1 k29_16 ?_
    refine ev_cV2i k29_17 cs_113 (by first | assumption | rfl) (by omega) (Nat.le_of_ble_eq_true rfl) rfl rfl rfl ?_
    refine sp_weigh hh (nc := nc) (hOK_congr (fun k a b c => hWI_ne a b) ok) hlt (fun g2 => ?_)
    rw [hWt_congr (I := I) (fun k a b => hWI_ne a b)]
    refine ev_ias (j := i) k29_20 (by first | assumption | rfl) (nI_clamp (by omega)) (vp_in_nI (show i < 6 by omega) (by omega)) ?_
    refine ev_inc1 k29_21 rfl ?_
    refine ev_goto k29_24 ?_
    rw [nI_1]
    have e : mm_up (mm_rp (hWI I hb i g) (hb + 12) g2) (hb + 5) i (hWt I hb i) = hWI I hb (i + 1) g2 := by
      funext k j
      by_cases h1 : k = hb + 12
      · subst h1
        simp [mm_up_at, hWI, mm_rp]
      · by_cases h2 : k = hb + 5
        · subst h2
          by_cases h3 : j = i
          · subst h3
            simp [mm_up_at, hWI, mm_rp, hWa]
          · have h4 : (j < i + 1) = (j < i) := by apply propext; omega
            simp [mm_up_at, hWI, mm_rp, hWa, h3, h4]
        · simp [mm_up_at, hWI, mm_rp, h1, h2]
    rw [e]
    exact ih (i + 1) g2 (by omega) hQ
/-- House.weighAll -/
theorem sp_weighAll {X : Nat × (Nat → Int32)} {d : Nat} {I : mm_I} {hb nc : Nat} {P : mm_I → Prop} (hh : hH hb) (ok : hOK I hb nc) (hQ : ∀ g, P (hWI I hb nc g)) : mm_Ev mm_T0 X (d + 4) 29 0 (mm_ent 29 [.ref hb]) [] I (mm_pv P) := by
  show mm_Ev mm_T0 X (d + 4) 29 0 [.ref hb, .retAddr 0] [] I (mm_pv P)
  refine ev_iconst k29_0 ?_
  refine ev_ist1 k29_1 rfl ?_
  have e : hWI I hb 0 (I (hb + 12)) = I := by
    have e1 : hWa I hb 0 = I (hb + 5) := by funext j; simp [hWa]
    unfold hWI
    rw [e1, mm_rp_self, mm_rp_self]
  have h := lp_weighAll (X := X) (d := d) (P := P) hh ok nc 0 (I (hb + 12)) (by omega) hQ
  rw [e] at h
  exact h
def hWs (I : mm_I) (hb : Nat) (t : Int32) (c : Nat) (s : Int32) : Int32 := if iB t (nI c) then s + I (hb + 5) c else s
def hWo (I : mm_I) (hb nc : Nat) (t : Int32) : Int32 := fo (hWs I hb t) nc 0 0
def hMs (I : mm_I) (hb : Nat) (b t : Int32) (c : Nat) (s : Int32) : Int32 := if iB t (nI c) then s + hOp I hb (hK I hb c) c b t * I (hb + 5) c else s
def hMg (I : mm_I) (hb nc : Nat) (b t : Int32) : Int32 := fo (hMs I hb b t) nc 0 0
def hSy (I : mm_I) (hb c : Nat) (b t : Int32) : Int32 := if iB t (nI c) then hOp I hb (hK I hb c) c b t else 0
def hSs (I : mm_I) (hb : Nat) (b t side : Int32) (c : Nat) (s : Int32) : Int32 := if hSy I hb c b t = side then s + I (hb + 5) c else s
theorem lp_weightOf {X : Nat × (Nat → Int32)} {d : Nat} {I : mm_I} {hb nc : Nat} {t : Int32} {P : Int32 → mm_I → Prop} (hh : hH hb) (hc1 : I hb 1 = nI nc) (hc6 : nc ≤ 6)  : ∀ (n i : Nat) (w : Int32), i + n = nc → P (fo (hWs I hb t) n i w) I → mm_Ev mm_T0 X (d + 1) 30 4 [.ref hb, .int t, .int w, .int (nI i)] [] I (mm_pi P) := by
  have t0 := tH0 hh
  have t5 := tH5 hh
  have hbl := hH_lt hh
  intro n
  induction n with
  | zero =>
    intro i w hi hQ
    have e : i = nc := by omega
    subst e
    refine ev_ild3 k30_4 ?_
    refine ev_ald0 k30_5 ?_
    refine ev_gf (j := 1) k30_6 (by first | assumption | rfl) rfl rfl rfl rfl ?_
    rw [hc1]
    refine ev_jcmp_ge k30_9 (fun h9 => ?_) (fun h9 => absurd h9 (nI_nlt (Nat.le_refl _) (by omega)))
    refine ev_ild2 k30_35 ?_
    refine ev_ri k30_36 rfl ?_
    exact hQ
  | succ n ih =>
    intro i w hi hQ
    have hlt : i < nc := by omega
    refine ev_ild3 k30_4 ?_
    refine ev_ald0 k30_5 ?_
    refine ev_gf (j := 1) k30_6 (by first | assumption | rfl) rfl rfl rfl rfl ?_
    rw [hc1]
    refine ev_jcmp_ge k30_9 (fun h9 => absurd (nI_lt hlt (by omega)) h9) (fun h9 => ?_)
    refine ev_ild1 k30_12 ?_
    refine ev_ild3 k30_13 ?_
    refine ev_cS2i k30_14 cs_108 rfl rfl rfl ?_
    refine sp_isIn ?_
    refine ev_ifz_eq k30_17 (fun h17 => ?_) (fun h17 => ?_)
    ·
      refine ev_inc3 k30_29 rfl ?_
      refine ev_goto k30_32 ?_
      rw [nI_1]
      refine ih (i + 1) _ (by omega) ?_
      simp only [fo, hWs, h17, if_true, if_false, Bool.false_eq_true] at hQ
      exact hQ
    ·
      refine ev_ild2 k30_20 ?_
      refine ev_ald0 k30_21 ?_
      refine ev_getr k30_22 (by first | assumption | rfl) rfl rfl rfl ?_
      refine ev_ild3 k30_25 ?_
      refine ev_ial (j := i) k30_26 (by first | assumption | rfl) (by omega) (nI_clamp (by omega)) (vp_in_nI (show i < 6 by omega) (by omega)) ?_
      refine ev_iadd k30_27 ?_
      refine ev_ist2 k30_28 rfl ?_
      refine ev_inc3 k30_29 rfl ?_
      refine ev_goto k30_32 ?_
      rw [nI_1]
      refine ih (i + 1) _ (by omega) ?_
      simp only [fo, hWs, h17, if_true, if_false, Bool.false_eq_true] at hQ
      exact hQ
/-- House.weightOf -/
theorem sp_weightOf {X : Nat × (Nat → Int32)} {d : Nat} {I : mm_I} {hb nc : Nat} {t : Int32} {P : Int32 → mm_I → Prop} (hh : hH hb) (hc1 : I hb 1 = nI nc) (hc6 : nc ≤ 6) (hQ : P (hWo I hb nc t) I) : mm_Ev mm_T0 X (d + 1) 30 0 (mm_ent 30 [.ref hb, .int t]) [] I (mm_pi P) := by
  show mm_Ev mm_T0 X (d + 1) 30 0 [.ref hb, .int t, .retAddr 0, .retAddr 0] [] I (mm_pi P)
  refine ev_iconst k30_0 ?_
  refine ev_ist2 k30_1 rfl ?_
  refine ev_iconst k30_2 ?_
  refine ev_ist3 k30_3 rfl ?_
  exact lp_weightOf hh hc1 hc6 nc 0 0 (by omega) hQ
/-- House.opinionOf -/
theorem sp_opinionOf {X : Nat × (Nat → Int32)} {d : Nat} {I : mm_I} {hb nc c : Nat} {b t : Int32} {P : Int32 → mm_I → Prop} (hh : hH hb) (hc1 : I hb 1 = nI nc) (hc6 : nc ≤ 6) (hk : ∀ c, c < nc → I (hb + 1) c = nI (hK I hb c) ∧ hK I hb c < 7) (hc : c < nc) (hQ : P (hSy I hb c b t) I) : mm_Ev mm_T0 X (d + 5) 31 0 (mm_ent 31 [.ref hb, .int (nI c), .int b, .int t]) [] I (mm_pi P) := by
  show mm_Ev mm_T0 X (d + 5) 31 0 [.ref hb, .int (nI c), .int b, .int t] [] I (mm_pi P)
  have t0 := tH0 hh
  have hbl := hH_lt hh
  refine ev_ild3 k31_0 ?_
  refine ev_ild1 k31_1 ?_
  refine ev_cS2i k31_2 cs_108 rfl rfl rfl ?_
  refine sp_isIn ?_
  refine ev_ifz_eq k31_5 (fun h5 => ?_) (fun h5 => ?_)
  ·
    refine ev_iconst k31_23 ?_
    refine ev_ri k31_24 rfl ?_
    simp only [hSy, h5, if_true, if_false, Bool.false_eq_true] at hQ
    exact hQ
  ·
    refine ev_ald0 k31_8 ?_
    refine ev_ild1 k31_9 ?_
    refine ev_cV2r k31_10 cs_111 (by first | assumption | rfl) (by omega) (Nat.le_of_ble_eq_true rfl) rfl rfl rfl ?_
    refine sp_kindOf hh (by omega) (hk c hc).1 (hk c hc).2 ?_
    refine ev_ald0 k31_13 ?_
    refine ev_ild1 k31_14 ?_
    refine ev_ild2 k31_15 ?_
    refine ev_ild3 k31_16 ?_
    refine ev_opV k31_17 hh (show c < 6 by omega) (Nat.lt_of_lt_of_le (hNx_lt hc1 hc6 hc) hc6) (hk c hc).2 rfl ?_
    refine ev_goto k31_20 ?_
    refine ev_ri k31_24 rfl ?_
    simp only [hSy, h5, if_true, if_false, Bool.false_eq_true] at hQ
    exact hQ
theorem lp_margin {X : Nat × (Nat → Int32)} {d : Nat} {I : mm_I} {hb nc : Nat} {b t : Int32} {P : Int32 → mm_I → Prop} (hh : hH hb) (hc1 : I hb 1 = nI nc) (hc6 : nc ≤ 6) (hk : ∀ c, c < nc → I (hb + 1) c = nI (hK I hb c) ∧ hK I hb c < 7)  : ∀ (n i : Nat) (w : Int32), i + n = nc → P (fo (hMs I hb b t) n i w) I → mm_Ev mm_T0 X (d + 5) 33 5 [.ref hb, .int b, .int t, .int w, .int (nI i)] [] I (mm_pi P) := by
  have t0 := tH0 hh
  have t5 := tH5 hh
  have hbl := hH_lt hh
  intro n
  induction n with
  | zero =>
    intro i w hi hQ
    have e : i = nc := by omega
    subst e
    refine ev_ild4 k33_5 ?_
    refine ev_ald0 k33_7 ?_
    refine ev_gf (j := 1) k33_8 (by first | assumption | rfl) rfl rfl rfl rfl ?_
    rw [hc1]
    refine ev_jcmp_ge k33_11 (fun h11 => ?_) (fun h11 => absurd h11 (nI_nlt (Nat.le_refl _) (by omega)))
    refine ev_ild3 k33_54 ?_
    refine ev_ri k33_55 rfl ?_
    exact hQ
  | succ n ih =>
    intro i w hi hQ
    have hlt : i < nc := by omega
    refine ev_ild4 k33_5 ?_
    refine ev_ald0 k33_7 ?_
    refine ev_gf (j := 1) k33_8 (by first | assumption | rfl) rfl rfl rfl rfl ?_
    rw [hc1]
    refine ev_jcmp_ge k33_11 (fun h11 => absurd (nI_lt hlt (by omega)) h11) (fun h11 => ?_)
    refine ev_ild2 k33_14 ?_
    refine ev_ild4 k33_15 ?_
    refine ev_cS2i k33_17 cs_108 rfl rfl rfl ?_
    refine sp_isIn ?_
    refine ev_ifz_eq k33_20 (fun h20 => ?_) (fun h20 => ?_)
    ·
      refine ev_inc4 k33_48 rfl ?_
      refine ev_goto k33_51 ?_
      rw [nI_1]
      refine ih (i + 1) _ (by omega) ?_
      simp only [fo, hMs, h20, if_true, if_false, Bool.false_eq_true] at hQ
      exact hQ
    ·
      refine ev_ild3 k33_23 ?_
      refine ev_ald0 k33_24 ?_
      refine ev_ild4 k33_25 ?_
      refine ev_cV2r k33_27 cs_111 (by first | assumption | rfl) (by omega) (Nat.le_of_ble_eq_true rfl) rfl rfl rfl ?_
      refine sp_kindOf hh (by omega) (hk i hlt).1 (hk i hlt).2 ?_
      refine ev_ald0 k33_30 ?_
      refine ev_ild4 k33_31 ?_
      refine ev_ild1 k33_33 ?_
      refine ev_ild2 k33_34 ?_
      refine ev_opV k33_35 hh (show i < 6 by omega) (Nat.lt_of_lt_of_le (hNx_lt hc1 hc6 hlt) hc6) (hk i hlt).2 rfl ?_
      refine ev_ald0 k33_38 ?_
      refine ev_getr k33_39 (by first | assumption | rfl) rfl rfl rfl ?_
      refine ev_ild4 k33_42 ?_
      refine ev_ial (j := i) k33_44 (by first | assumption | rfl) (by omega) (nI_clamp (by omega)) (vp_in_nI (show i < 6 by omega) (by omega)) ?_
      refine ev_imul k33_45 ?_
      refine ev_iadd k33_46 ?_
      refine ev_ist3 k33_47 rfl ?_
      refine ev_inc4 k33_48 rfl ?_
      refine ev_goto k33_51 ?_
      rw [nI_1]
      refine ih (i + 1) _ (by omega) ?_
      simp only [fo, hMs, h20, if_true, if_false, Bool.false_eq_true] at hQ
      exact hQ
/-- House.margin -/
theorem sp_margin {X : Nat × (Nat → Int32)} {d : Nat} {I : mm_I} {hb nc : Nat} {b t : Int32} {P : Int32 → mm_I → Prop} (hh : hH hb) (hc1 : I hb 1 = nI nc) (hc6 : nc ≤ 6) (hk : ∀ c, c < nc → I (hb + 1) c = nI (hK I hb c) ∧ hK I hb c < 7) (hQ : P (hMg I hb nc b t) I) : mm_Ev mm_T0 X (d + 5) 33 0 (mm_ent 33 [.ref hb, .int b, .int t]) [] I (mm_pi P) := by
  show mm_Ev mm_T0 X (d + 5) 33 0 [.ref hb, .int b, .int t, .retAddr 0, .retAddr 0] [] I (mm_pi P)
  refine ev_iconst k33_0 ?_
  refine ev_ist3 k33_1 rfl ?_
  refine ev_iconst k33_2 ?_
  refine ev_ist4 k33_3 rfl ?_
  exact lp_margin hh hc1 hc6 hk nc 0 0 (by omega) hQ
theorem lp_weightSaying {X : Nat × (Nat → Int32)} {d : Nat} {I : mm_I} {hb nc : Nat} {side b t : Int32} {P : Int32 → mm_I → Prop} (hh : hH hb) (hc1 : I hb 1 = nI nc) (hc6 : nc ≤ 6) (hk : ∀ c, c < nc → I (hb + 1) c = nI (hK I hb c) ∧ hK I hb c < 7)  : ∀ (n i : Nat) (w : Int32), i + n = nc → P (fo (hSs I hb b t side) n i w) I → mm_Ev mm_T0 X (d + 6) 32 11 [.ref hb, .int side, .int b, .int t, .int w, .int (nI i)] [] I (mm_pi P) := by
  have t0 := tH0 hh
  have t5 := tH5 hh
  have hbl := hH_lt hh
  intro n
  induction n with
  | zero =>
    intro i w hi hQ
    have e : i = nc := by omega
    subst e
    refine ev_ild5 k32_11 ?_
    refine ev_ald0 k32_13 ?_
    refine ev_gf (j := 1) k32_14 (by first | assumption | rfl) rfl rfl rfl rfl ?_
    rw [hc1]
    refine ev_jcmp_ge k32_17 (fun h17 => ?_) (fun h17 => absurd h17 (nI_nlt (Nat.le_refl _) (by omega)))
    refine ev_ild4 k32_50 ?_
    refine ev_ri k32_52 rfl ?_
    exact hQ
  | succ n ih =>
    intro i w hi hQ
    have hlt : i < nc := by omega
    refine ev_ild5 k32_11 ?_
    refine ev_ald0 k32_13 ?_
    refine ev_gf (j := 1) k32_14 (by first | assumption | rfl) rfl rfl rfl rfl ?_
    rw [hc1]
    refine ev_jcmp_ge k32_17 (fun h17 => absurd (nI_lt hlt (by omega)) h17) (fun h17 => ?_)
    refine ev_ald0 k32_20 ?_
    refine ev_ild5 k32_21 ?_
    refine ev_ild2 k32_23 ?_
    refine ev_ild3 k32_24 ?_
    refine ev_cV4i k32_25 cs_116 (by first | assumption | rfl) (by omega) (Nat.le_of_ble_eq_true rfl) rfl rfl rfl ?_
    refine sp_opinionOf hh hc1 hc6 hk hlt ?_
    refine ev_ild1 k32_28 ?_
    refine ev_icmp_ne k32_29 (fun h29 => ?_) (fun h29 => ?_)
    ·
      refine ev_inc5 k32_44 rfl ?_
      refine ev_goto k32_47 ?_
      rw [nI_1]
      refine ih (i + 1) _ (by omega) ?_
      simp only [fo, hSs, h29, if_true, if_false] at hQ
      exact hQ
    ·
      refine ev_ild4 k32_32 ?_
      refine ev_ald0 k32_34 ?_
      refine ev_getr k32_35 (by first | assumption | rfl) rfl rfl rfl ?_
      refine ev_ild5 k32_38 ?_
      refine ev_ial (j := i) k32_40 (by first | assumption | rfl) (by omega) (nI_clamp (by omega)) (vp_in_nI (show i < 6 by omega) (by omega)) ?_
      refine ev_iadd k32_41 ?_
      refine ev_ist4 k32_42 rfl ?_
      refine ev_inc5 k32_44 rfl ?_
      refine ev_goto k32_47 ?_
      rw [nI_1]
      refine ih (i + 1) _ (by omega) ?_
      simp only [fo, hSs, h29, if_true, if_false] at hQ
      exact hQ
/-- House.weightSaying -/
theorem sp_weightSaying {X : Nat × (Nat → Int32)} {d : Nat} {I : mm_I} {hb nc np : Nat} {side b : Int32} {P : Int32 → mm_I → Prop} (hh : hH hb) (hc1 : I hb 1 = nI nc) (hc6 : nc ≤ 6) (hk : ∀ c, c < nc → I (hb + 1) c = nI (hK I hb c) ∧ hK I hb c < 7) (hm : I hb 7 = nI np) (hp : np ≤ 6) (hQ : P (fo (hSs I hb b (hTk I hb np) side) nc 0 0) I) : mm_Ev mm_T0 X (d + 6) 32 0 (mm_ent 32 [.ref hb, .int side, .int b]) [] I (mm_pi P) := by
  show mm_Ev mm_T0 X (d + 6) 32 0 [.ref hb, .int side, .int b, .retAddr 0, .retAddr 0, .retAddr 0] [] I (mm_pi P)
  have t0 := tH0 hh
  have hbl := hH_lt hh
  refine ev_ald0 k32_0 ?_
  refine ev_cV1i k32_1 cs_115 (by first | assumption | rfl) (by omega) (Nat.le_of_ble_eq_true rfl) rfl rfl rfl ?_
  refine sp_taken hh hm hp ?_
  refine ev_ist3 k32_4 rfl ?_
  refine ev_iconst k32_5 ?_
  refine ev_ist4 k32_6 rfl ?_
  refine ev_iconst k32_8 ?_
  refine ev_ist5 k32_9 rfl ?_
  exact lp_weightSaying hh hc1 hc6 hk nc 0 0 (by omega) hQ
