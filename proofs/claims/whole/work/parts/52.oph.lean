/-! speeds, judge -/
def mN (a b : Nat) : Nat := if b < a then b else a
theorem mN_I {a b : Nat} (ha : a < 1000) (hb : b < 1000) : (if nI b < nI a then nI b else nI a) = nI (mN a b) := by
  unfold mN
  by_cases h : b < a
  · rw [if_pos h, if_pos (nI_lt h (by omega))]
  · rw [if_neg h, if_neg (nI_nlt (by omega) (by omega))]
theorem mN_le (a b : Nat) : mN a b ≤ a ∧ mN a b ≤ b ∧ (mN a b = a ∨ mN a b = b) := by
  unfold mN
  split <;> omega
def spC (v : Nat → Int32) (I : mm_I) : Nat → mm_I
  | 0 => I
  | i + 1 => mm_up (spC v I i) 17 i (v i)
def spM (v : Nat → Int32) (I : mm_I) : Nat → mm_I
  | 0 => I
  | i + 1 => mm_up (spM v I i) 92 (31 + 3 * i + 0) (v i)
theorem spC_ne {v : Nat → Int32} {I : mm_I} {k : Nat} (h : k ≠ 17) : ∀ i, spC v I i k = I k
  | 0 => rfl
  | i + 1 => (mm_up_ne _ _ _ _ _ h).trans (spC_ne h i)
theorem spM_ne {v : Nat → Int32} {I : mm_I} {k : Nat} (h : k ≠ 92) : ∀ i, spM v I i k = I k
  | 0 => rfl
  | i + 1 => (mm_up_ne _ _ _ _ _ h).trans (spM_ne h i)
theorem spM_lo {v : Nat → Int32} {I : mm_I} {j : Nat} (h : j < 31) : ∀ i, spM v I i 92 j = I 92 j
  | 0 => rfl
  | i + 1 => by
    show mm_up (spM v I i) 92 (31 + 3 * i + 0) (v i) 92 j = _
    rw [mm_up_at, if_neg (by omega)]
    exact spM_lo h i
theorem spM_cg {v : Nat → Int32} {I K : mm_I} (h : K 92 = I 92) : ∀ i, spM v K i 92 = spM v I i 92
  | 0 => h
  | i + 1 => by
    show mm_up (spM v K i) 92 (31 + 3 * i + 0) (v i) 92 = mm_up (spM v I i) 92 (31 + 3 * i + 0) (v i) 92
    rw [mm_up_same, mm_up_same, spM_cg h i]
def spG (v : Nat → Int32) (i : Nat) : Bool := !wB 0 99 (v i)
def spN (v : Nat → Int32) (m : Nat) : Nat := wnX (fnd (spG v) m 0) m
theorem fnd_none {f : Nat → Bool} : ∀ {n i : Nat}, fnd f n i = none → ∀ j, i ≤ j → j < i + n → f j = false := by
  intro n
  induction n with
  | zero => intro i _ j a b; omega
  | succ n ih =>
    intro i h j a b
    unfold fnd at h
    by_cases z : f i = true
    · rw [if_pos z] at h; cases h
    · rw [if_neg z] at h
      by_cases e : j = i
      · rw [e]; simpa using z
      · exact ih h j (by omega) (by omega)
theorem fnd_bf {f : Nat → Bool} : ∀ {n i m : Nat}, fnd f n i = some m → ∀ j, i ≤ j → j < m → f j = false := by
  intro n
  induction n with
  | zero => intro i m h; cases h
  | succ n ih =>
    intro i m h j a b
    unfold fnd at h
    by_cases z : f i = true
    · rw [if_pos z] at h; cases h; omega
    · rw [if_neg z] at h
      by_cases e : j = i
      · rw [e]; simpa using z
      · exact ih h j (by omega) b
theorem spN_le (v : Nat → Int32) (m : Nat) : spN v m ≤ m ∧ ∀ i, i < spN v m → wB 0 99 (v i) = true := by
  unfold spN
  cases h : fnd (spG v) m 0 with
  | none => exact ⟨Nat.le_refl _, fun i hi => by have z := fnd_none h i (Nat.zero_le _) (by rw [Nat.zero_add]; exact hi); simpa [spG] using z⟩
  | some k => exact ⟨by have z := (fnd_some h).2.1; simp only [wnX]; omega, fun i hi => by have z := fnd_bf h i (Nat.zero_le _) hi; simpa [spG] using z⟩
theorem HS_sp {I : mm_I} {nc np : Nat} {v : Nat → Int32} (hs : HS (cells I 11) (I 92) nc np) : ∀ k, k ≤ np → (∀ i, i < k → wB 0 99 (v i) = true) → HS (cells (spC v I k) 11) (spM v I k 92) nc np
  | 0, _, _ => hs
  | k + 1, hk, hv => by
    have ih := HS_sp hs k (by omega) (fun i hi => hv i (by omega))
    show HS (cells (mm_up (spC v I k) (11 + 6) k (v k)) 11) (mm_up (spM v I k) 92 (31 + 3 * k + 0) (v k) 92) nc np
    rw [cells_up, mm_up_same]
    obtain ⟨x, hx, ex⟩ := wB_le (hi := 99) (by omega) (hv k (by omega))
    exact HS_member (w := 0) (v := v k) (by decide) hk (fun _ => ⟨x, by omega, ex⟩) (fun z => absurd z (by decide)) (fun z => absurd z (by decide)) ih
theorem lp_speeds {X : Nat × (Nat → Int32)} {d : Nat} {I : mm_I} {s ln m np : Nat} {v : Nat → Int32} {P : Int32 → mm_I → Prop} (hs4 : s < 4) (hln : ln ≤ 40) (c3 : I (80 + 2 * s) 2 = nI ln) (hm1 : m ≤ ln) (hm2 : m ≤ np) (hp6 : np ≤ 6) (hv : I (80 + 2 * s + 1) = v) (hQ : P (nI (spN v m)) (spC v I (spN v m))) : ∀ (n i : Nat), i + n = m → fnd (spG v) n i = fnd (spG v) m 0 → mm_Ev mm_T0 X (d + 20) 108 54 [.ref 0, .int (nI s), .ref (80 + 2 * s), .int (nI m), .int (nI i)] [] (spC v I i) (mm_pi P) := by
  have t0 := tCV
  have ts0 := tS0 hs4
  have ts1 := tS1 hs4
  intro n
  induction n with
  | zero =>
    intro i hi he
    have e : i = m := by omega
    subst e
    refine ev_ild4 k108_54 ?_
    refine ev_ild3 k108_56 ?_
    refine ev_jcmp_ge k108_57 (fun h57 => ?_) (fun h57 => absurd h57 (nI_nlt (Nat.le_refl _) (by omega)))
    refine ev_ild3 k108_97 ?_
    refine ev_ri k108_98 rfl ?_
    have z : spN v i = i := by unfold spN; rw [← he]; rfl
    rw [z] at hQ
    exact hQ
  | succ n ih =>
    intro i hi he
    have hlt : i < m := by omega
    refine ev_ild4 k108_54 ?_
    refine ev_ild3 k108_56 ?_
    refine ev_jcmp_ge k108_57 (fun h57 => absurd (nI_lt hlt (by omega)) h57) (fun h57 => ?_)
    refine ev_ald2 k108_60 ?_
    refine ev_ild4 k108_61 ?_
    refine ev_cV2i k108_63 cs_215 (by first | assumption | rfl) (by omega) (Nat.le_of_ble_eq_true rfl) rfl rfl rfl ?_
    refine sp_get (ra := 80 + 2 * s) (N := 40) (n := ln) ts0 ts1 (by omega) (show _ = nI ln from (congrFun (spC_ne (by omega) i) 2).trans c3) hln (by decide) ?_
    rw [if_pos (inB_of (show i < ln by omega) (by omega)), nI_clamp (by omega), show spC v I i (80 + 2 * s + 1) i = v i from by rw [spC_ne (by omega)]; exact congrFun hv i]
    refine ev_cS1i k108_66 cs_184 rfl rfl rfl ?_
    refine sp_isSpeed ?_
    refine ev_ifz_ne k108_69 (fun h69 => ?_) (fun h69 => ?_)
    ·
      refine ev_ald0 k108_75 ?_
      refine ev_getr k108_76 (by first | assumption | rfl) rfl rfl rfl ?_
      refine ev_getr k108_79 (by first | assumption | rfl) rfl rfl rfl ?_
      refine ev_ild4 k108_82 ?_
      refine ev_ald2 k108_84 ?_
      refine ev_ild4 k108_85 ?_
      refine ev_cV2i k108_87 cs_215 (by first | assumption | rfl) (by omega) (Nat.le_of_ble_eq_true rfl) rfl rfl rfl ?_
      refine sp_get (ra := 80 + 2 * s) (N := 40) (n := ln) ts0 ts1 (by omega) (show _ = nI ln from (congrFun (spC_ne (by omega) i) 2).trans c3) hln (by decide) ?_
      rw [if_pos (inB_of (show i < ln by omega) (by omega)), nI_clamp (by omega), show spC v I i (80 + 2 * s + 1) i = v i from by rw [spC_ne (by omega)]; exact congrFun hv i]
      refine ev_ias (j := i) k108_90 (by first | assumption | rfl) (nI_clamp (by omega)) (vp_in_nI (show i < 6 by omega) (by omega)) ?_
      refine ev_inc4 k108_91 rfl ?_
      refine ev_goto k108_94 ?_
      have e : fnd (spG v) (n + 1) i = fnd (spG v) n (i + 1) := if_neg (show ¬ spG v i = true from by unfold spG; rw [h69]; decide)
      rw [nI_1]
      exact ih (i + 1) (by omega) (e.symm.trans he)
    ·
      refine ev_ild4 k108_72 ?_
      refine ev_ri k108_74 rfl ?_
      have e : fnd (spG v) (n + 1) i = some i := if_pos (show spG v i = true from by unfold spG; rw [h69]; rfl)
      have z : spN v m = i := by unfold spN; rw [← he, e]; rfl
      rw [z] at hQ
      exact hQ
theorem lm_speeds {X : Nat × (Nat → Int32)} {d : Nat} {I : mm_I} {s ln m np : Nat} {v : Nat → Int32} {P : Int32 → mm_I → Prop} (hs4 : s < 4) (hln : ln ≤ 40) (hm1 : m ≤ ln) (hm2 : m ≤ np) (hm3 : m = ln ∨ m = np) (hp6 : np ≤ 6) (d2 : I 102 s = nI ln) (d3 : I 92 3 = nI np) (d4 : ∀ j, j < 40 → I 103 (40 * s + j) = v j) (hQ : P (nI (spN v m)) (spM v I (spN v m))) : ∀ (n i : Nat), i + n = m → fnd (spG v) n i = fnd (spG v) m 0 → mm_Ev mm_T0 X (d + 20) 235 18 [.ref 91, .int (nI s), .int 0, .int (nI i)] [] (spM v I i) (mm_pi P) := by
  have tm := tM
  have tr := tR
  have q1 := t101
  have q2 := t102
  have q3 := t103
  intro n
  induction n with
  | zero =>
    intro i hi he
    have e : i = m := by omega
    subst e
    refine ev_ild3 k235_18 ?_
    refine ev_ald0 k235_19 ?_
    refine ev_getr k235_20 (by first | assumption | rfl) rfl rfl rfl ?_
    refine ev_ild1 k235_23 ?_
    refine ev_ialv (j := s) k235_24 (by first | assumption | rfl) (by omega) (nI_clamp (by omega)) (vp_in_nI (show s < 4 by omega) (by decide)) ((congrFun (spM_ne (by decide) i) s).trans d2) ?_
    refine ev_jcmp_ge k235_25 (fun h25 => ?_) (fun h25 => ?_)
    ·
      refine ev_ild3 k235_81 ?_
      refine ev_ri k235_82 rfl ?_
      have z : spN v i = i := by unfold spN; rw [← he]; rfl
      rw [z] at hQ
      exact hQ
    ·
      refine ev_ild3 k235_28 ?_
      refine ev_ald0 k235_29 ?_
      refine ev_getr k235_30 (by first | assumption | rfl) rfl rfl rfl ?_
      refine ev_iconst k235_33 ?_
      refine ev_ialv (j := 3) k235_34 (by first | assumption | rfl) (by omega) rfl (vp_dec rfl) ((spM_lo (by omega) i).trans d3) ?_
      refine ev_jcmp_ge k235_35 (fun h35 => ?_) (fun h35 => absurd ((nI_ltI (show i < 2 ^ 31 by omega) (show np < 2 ^ 31 by omega)).mp h35) (by have := (nI_ltI (show i < 2 ^ 31 by omega) (show ln < 2 ^ 31 by omega)).mp h25; omega))
      refine ev_ild3 k235_81 ?_
      refine ev_ri k235_82 rfl ?_
      have z : spN v i = i := by unfold spN; rw [← he]; rfl
      rw [z] at hQ
      exact hQ
  | succ n ih =>
    intro i hi he
    have hlt : i < m := by omega
    refine ev_ild3 k235_18 ?_
    refine ev_ald0 k235_19 ?_
    refine ev_getr k235_20 (by first | assumption | rfl) rfl rfl rfl ?_
    refine ev_ild1 k235_23 ?_
    refine ev_ialv (j := s) k235_24 (by first | assumption | rfl) (by omega) (nI_clamp (by omega)) (vp_in_nI (show s < 4 by omega) (by decide)) ((congrFun (spM_ne (by decide) i) s).trans d2) ?_
    refine ev_jcmp_ge k235_25 (fun h25 => absurd (nI_lt (show i < ln by omega) (by omega)) h25) (fun h25 => ?_)
    refine ev_ild3 k235_28 ?_
    refine ev_ald0 k235_29 ?_
    refine ev_getr k235_30 (by first | assumption | rfl) rfl rfl rfl ?_
    refine ev_iconst k235_33 ?_
    refine ev_ialv (j := 3) k235_34 (by first | assumption | rfl) (by omega) rfl (vp_dec rfl) ((spM_lo (by omega) i).trans d3) ?_
    refine ev_jcmp_ge k235_35 (fun h35 => absurd (nI_lt (show i < np by omega) (by omega)) h35) (fun h35 => ?_)
    refine ev_ald0 k235_38 ?_
    refine ev_getr k235_39 (by first | assumption | rfl) rfl rfl rfl ?_
    refine ev_bipush k235_42 ?_
    refine ev_ild1 k235_44 ?_
    refine ev_imul k235_45 ?_
    refine ev_ild3 k235_46 ?_
    refine ev_iadd k235_47 ?_
    rw [idxC]
    refine ev_ialv (j := (40 * s + i)) k235_48 (by first | assumption | rfl) (by omega) (nI_clamp (by omega)) (vp_in_nI (show 40 * s + i < 160 by omega) (by omega)) ((congrFun (spM_ne (by decide) i) _).trans (d4 i (by omega))) ?_
    refine ev_iconst k235_49 ?_
    refine ev_bipush k235_50 ?_
    refine ev_cS3i k235_52 cs_224 rfl rfl rfl ?_
    refine sp_in ?_
    refine ev_ifz_eq k235_55 (fun h55 => ?_) (fun h55 => ?_)
    ·
      refine ev_ild3 k235_81 ?_
      refine ev_ri k235_82 rfl ?_
      have e : fnd (spG v) (n + 1) i = some i := if_pos (show spG v i = true from by unfold spG; rw [h55]; rfl)
      have z : spN v m = i := by unfold spN; rw [← he, e]; rfl
      rw [z] at hQ
      exact hQ
    ·
      refine ev_ald0 k235_58 ?_
      refine ev_ild3 k235_59 ?_
      refine ev_iconst k235_60 ?_
      refine ev_ald0 k235_61 ?_
      refine ev_getr k235_62 (by first | assumption | rfl) rfl rfl rfl ?_
      refine ev_bipush k235_65 ?_
      refine ev_ild1 k235_67 ?_
      refine ev_imul k235_68 ?_
      refine ev_ild3 k235_69 ?_
      refine ev_iadd k235_70 ?_
      rw [idxC]
      refine ev_ialv (j := (40 * s + i)) k235_71 (by first | assumption | rfl) (by omega) (nI_clamp (by omega)) (vp_in_nI (show 40 * s + i < 160 by omega) (by omega)) ((congrFun (spM_ne (by decide) i) _).trans (d4 i (by omega))) ?_
      refine ev_cV4v k235_72 cs_244 (by first | assumption | rfl) (by omega) (Nat.le_of_ble_eq_true rfl) rfl rfl rfl ?_
      refine sm_lets (w := 0) (show i < 6 by omega) (by decide) ?_
      refine ev_inc3 k235_75 rfl ?_
      refine ev_goto k235_78 ?_
      have e : fnd (spG v) (n + 1) i = fnd (spG v) n (i + 1) := if_neg (show ¬ spG v i = true from by unfold spG; rw [h55]; decide)
      rw [nI_1]
      exact ih (i + 1) (by omega) (e.symm.trans he)
/-- CV.speeds -/
theorem op_speeds {X : Nat × (Nat → Int32)} {d : Nat} {I : mm_I} {P : Int32 → mm_I → Prop} {a : Int32} (inv : Inv I) (hQ : ∀ v J, mm_Ev mm_T0 X (d + 60) 235 0 (mm_ent 235 [.ref 91, .int a]) [] J (mm_pi fun w K => w = v ∧ Inv K) → P v J) : mm_Ev mm_T0 X (d + 60) 108 0 (mm_ent 108 [.ref 0, .int a]) [] I (mm_pi P) := by
  show mm_Ev mm_T0 X (d + 60) 108 0 [.ref 0, .int a, .retAddr 0, .retAddr 0, .retAddr 0] [] I (mm_pi P)
  obtain ⟨nc, np, hs⟩ := inv.1
  obtain ⟨c1, n6, p1, p6, rc, rp, rm, ok, sr, tt⟩ := hsF hs
  have t0 := tCV
  have tm := tM
  have tr := tR
  have q1 := t101
  have q2 := t102
  have q3 := t103
  refine ev_ild1 k108_0 ?_
  refine ev_cS1i k108_1 cs_206 rfl rfl rfl ?_
  refine sp_isSheet ?_
  refine ev_ifz_ne k108_4 (fun h4 => ?_) (fun h4 => ?_)
  ·
    obtain ⟨s, hs4, rfl⟩ := wB_le (hi := 3) (by omega) h4
    replace hs4 : s < 4 := by omega
    obtain ⟨ln, bn, hln, hbn, c1, c2, c3, c4, c5⟩ := inv.2.2.2.2.1 s hs4
    have ts0 := tS0 hs4
    have ts1 := tS1 hs4
    refine ev_ald0 k108_14 ?_
    refine ev_ild1 k108_15 ?_
    refine ev_cV2i k108_16 cs_218 (by first | assumption | rfl) (by omega) (Nat.le_of_ble_eq_true rfl) rfl rfl rfl ?_
    refine sp_isMissing hs4 c1 ?_
    refine ev_ifz_eq k108_19 (fun h19 => ?_) (fun h19 => ?_)
    ·
      refine ev_ald0 k108_29 ?_
      refine ev_getr k108_30 (by first | assumption | rfl) rfl rfl rfl ?_
      refine ev_ild1 k108_33 ?_
      refine ev_aaload k108_34 (by first | assumption | rfl) (by decide) (vp_in_nI (show s < 4 by omega) (by decide)) (tSa hs4) ?_
      refine ev_ast2 k108_35 rfl ?_
      refine ev_ald2 k108_36 ?_
      refine ev_gfv (j := 2) k108_37 (by first | assumption | rfl) rfl rfl rfl rfl c3 ?_
      refine ev_ald0 k108_40 ?_
      refine ev_getr k108_41 (by first | assumption | rfl) rfl rfl rfl ?_
      refine ev_gfv (j := 7) k108_44 (by first | assumption | rfl) rfl rfl rfl rfl p1 ?_
      refine ev_min k108_47 rfl ?_
      rw [mN_I (by omega) (by omega)]
      obtain ⟨m1, m2, m3⟩ := mN_le ln np
      generalize mN ln np = m at m1 m2 m3 ⊢
      refine ev_ist3 k108_50 rfl ?_
      refine ev_iconst k108_51 ?_
      refine ev_ist4 k108_52 rfl ?_
      refine lp_speeds (m := m) hs4 hln c3 m1 m2 p6 rfl ?_ m 0 (by omega) rfl
      refine hQ _ _ ?_
      show mm_Ev mm_T0 X (d + 60) 235 0 [.ref 91, .int _, .retAddr 0, .retAddr 0] [] _ (mm_pi _)
      refine ev_ald0 k235_0 ?_
      refine ev_ild1 k235_1 ?_
      refine ev_cV2i k235_2 cs_288 (by first | assumption | rfl) (by omega) (Nat.le_of_ble_eq_true rfl) rfl rfl rfl ?_
      refine sm_nt3 h4 hs4 (show _ = _ from (congrFun (spC_ne (by omega) _) s).trans c2) (of_decide_eq_false h19) ?_
      refine ev_ist2 k235_5 rfl ?_
      refine ev_ild2 k235_6 ?_
      refine ev_if_eq k235_7 (fun g7 => ?_) (fun g7 => absurd rfl g7)
      refine ev_iconst k235_16 ?_
      refine ev_ist3 k235_17 rfl ?_
      refine lm_speeds (v := I (80 + 2 * s + 1)) (ln := ln) (m := m) (np := np) hs4 hln m1 m2 m3 p6 ((congrFun (spC_ne (by omega) _) s).trans c4) ((congrFun (spC_ne (by omega) _) 3).trans rp) (fun j hj => (congrFun (spC_ne (by omega) _) _).trans ((c5 j hj).symm.trans (by rw [show 81 + 2 * s = 80 + 2 * s + 1 by omega]))) ?_ m 0 (by omega) rfl
      obtain ⟨k1, k2⟩ := spN_le (I (80 + 2 * s + 1)) m
      generalize spN (I (80 + 2 * s + 1)) m = k at k1 k2 ⊢
      refine ⟨rfl, Inv_H inv (fun k hk => ?_) (nc := nc) (np := np) ?_⟩
      · rw [spM_ne (by omega), spC_ne (by omega)]
      · rw [spM_cg (spC_ne (by omega) _)]
        exact HS_congr (fun k hk _ _ _ => spM_ne (by omega) _) (fun _ _ => rfl) (HS_sp hs k (by omega) k2)
    ·
      refine ev_ald0 k108_22 ?_
      refine ev_ldc k108_23 ?_
      refine ev_cV2i k108_25 cs_174 (by first | assumption | rfl) (by omega) (Nat.le_of_ble_eq_true rfl) rfl rfl rfl ?_
      refine sp_error (k := 2) (by decide) (by decide) (by decide) ?_
      refine ev_ri k108_28 rfl ?_
      refine hQ _ _ ?_
      show mm_Ev mm_T0 X (d + 60) 235 0 [.ref 91, .int _, .retAddr 0, .retAddr 0] [] _ (mm_pi _)
      refine ev_ald0 k235_0 ?_
      refine ev_ild1 k235_1 ?_
      refine ev_cV2i k235_2 cs_288 (by first | assumption | rfl) (by omega) (Nat.le_of_ble_eq_true rfl) rfl rfl rfl ?_
      refine sm_nt2 h4 hs4 (show _ = _ from c2) (of_decide_eq_true h19) ?_
      refine ev_ist2 k235_5 rfl ?_
      refine ev_ild2 k235_6 ?_
      refine ev_if_eq k235_7 (fun g7 => absurd g7 (by decide)) (fun g7 => ?_)
      refine ev_ald0 k235_10 ?_
      refine ev_ild2 k235_11 ?_
      refine ev_cV2i k235_12 cs_238 (by first | assumption | rfl) (by omega) (Nat.le_of_ble_eq_true rfl) rfl rfl rfl ?_
      refine sm_error (k := 2) (by decide) (by decide) ?_
      refine ev_ri k235_15 rfl ?_
      first | exact ⟨rfl, Inv_e rfl rfl inv⟩ | exact ⟨rfl, inv⟩
  ·
    refine ev_ald0 k108_7 ?_
    refine ev_ldc k108_8 ?_
    refine ev_cV2i k108_10 cs_174 (by first | assumption | rfl) (by omega) (Nat.le_of_ble_eq_true rfl) rfl rfl rfl ?_
    refine sp_error (k := 1) (by decide) (by decide) (by decide) ?_
    refine ev_ri k108_13 rfl ?_
    refine hQ _ _ ?_
    show mm_Ev mm_T0 X (d + 60) 235 0 [.ref 91, .int _, .retAddr 0, .retAddr 0] [] _ (mm_pi _)
    refine ev_ald0 k235_0 ?_
    refine ev_ild1 k235_1 ?_
    refine ev_cV2i k235_2 cs_288 (by first | assumption | rfl) (by omega) (Nat.le_of_ble_eq_true rfl) rfl rfl rfl ?_
    refine sm_nt1 h4 ?_
    refine ev_ist2 k235_5 rfl ?_
    refine ev_ild2 k235_6 ?_
    refine ev_if_eq k235_7 (fun g7 => absurd g7 (by decide)) (fun g7 => ?_)
    refine ev_ald0 k235_10 ?_
    refine ev_ild2 k235_11 ?_
    refine ev_cV2i k235_12 cs_238 (by first | assumption | rfl) (by omega) (Nat.le_of_ble_eq_true rfl) rfl rfl rfl ?_
    refine sm_error (k := 1) (by decide) (by decide) ?_
    refine ev_ri k235_15 rfl ?_
    first | exact ⟨rfl, Inv_e rfl rfl inv⟩ | exact ⟨rfl, inv⟩
def jgG (v A : Nat → Int32) (i : Nat) : Bool := !decide (v i = A i)
def jgV (v A : Nat → Int32) (ln np m : Nat) : Int32 := match fnd (jgG v A) m 0 with
  | some i => nI i
  | none => if ln = np then -1 else nI m
theorem lp_judge {X : Nat × (Nat → Int32)} {d : Nat} {I : mm_I} {s ln m np : Nat} {v A : Nat → Int32} {P : Int32 → mm_I → Prop} (hs4 : s < 4) (hln : ln ≤ 40) (c3 : I (80 + 2 * s) 2 = nI ln) (hm1 : m ≤ ln) (hm2 : m ≤ np) (hp6 : np ≤ 6) (hv : I (80 + 2 * s + 1) = v) (hA : I 19 = A) (p1 : I 11 7 = nI np) (hQ : P (jgV v A ln np m) I) : ∀ (n i : Nat), i + n = m → fnd (jgG v A) n i = fnd (jgG v A) m 0 → mm_Ev mm_T0 X (d + 20) 109 54 [.ref 0, .int (nI s), .ref (80 + 2 * s), .int (nI m), .int (nI i)] [] I (mm_pi P) := by
  have t0 := tCV
  have ts0 := tS0 hs4
  have ts1 := tS1 hs4
  intro n
  induction n with
  | zero =>
    intro i hi he
    have e : i = m := by omega
    subst e
    refine ev_ild4 k109_54 ?_
    refine ev_ild3 k109_56 ?_
    refine ev_jcmp_ge k109_57 (fun h57 => ?_) (fun h57 => absurd h57 (nI_nlt (Nat.le_refl _) (by omega)))
    refine ev_ald2 k109_88 ?_
    refine ev_gfv (j := 2) k109_89 (by first | assumption | rfl) rfl rfl rfl rfl c3 ?_
    refine ev_ald0 k109_92 ?_
    refine ev_getr k109_93 (by first | assumption | rfl) rfl rfl rfl ?_
    refine ev_gfv (j := 7) k109_96 (by first | assumption | rfl) rfl rfl rfl rfl p1 ?_
    refine ev_icmp_ne k109_99 (fun h99 => ?_) (fun h99 => ?_)
    ·
      refine ev_ild3 k109_106 ?_
      refine ev_ri k109_107 rfl ?_
      have z : jgV v A ln np i = nI i := by unfold jgV; rw [← he]; exact if_neg (fun w => h99 (by rw [w]))
      rw [z] at hQ
      exact hQ
    ·
      refine ev_iconst k109_102 ?_
      refine ev_goto k109_103 ?_
      refine ev_ri k109_107 rfl ?_
      have z : jgV v A ln np i = -1 := by unfold jgV; rw [← he]; exact if_pos ((nI_eq (show ln < 2 ^ 31 by omega) (show np < 2 ^ 31 by omega)).mp h99)
      rw [z] at hQ
      exact hQ
  | succ n ih =>
    intro i hi he
    have hlt : i < m := by omega
    refine ev_ild4 k109_54 ?_
    refine ev_ild3 k109_56 ?_
    refine ev_jcmp_ge k109_57 (fun h57 => absurd (nI_lt hlt (by omega)) h57) (fun h57 => ?_)
    refine ev_ald2 k109_60 ?_
    refine ev_ild4 k109_61 ?_
    refine ev_cV2i k109_63 cs_215 (by first | assumption | rfl) (by omega) (Nat.le_of_ble_eq_true rfl) rfl rfl rfl ?_
    refine sp_get (ra := 80 + 2 * s) (N := 40) (n := ln) ts0 ts1 (by omega) (show _ = nI ln from c3) hln (by decide) ?_
    rw [if_pos (inB_of (show i < ln by omega) (by omega)), nI_clamp (by omega), show I (80 + 2 * s + 1) i = v i from congrFun hv i]
    refine ev_ald0 k109_66 ?_
    refine ev_getr k109_67 (by first | assumption | rfl) rfl rfl rfl ?_
    refine ev_getr k109_70 (by first | assumption | rfl) rfl rfl rfl ?_
    refine ev_ild4 k109_73 ?_
    refine ev_ialv (j := i) k109_75 (by first | assumption | rfl) (by omega) (nI_clamp (by omega)) (vp_in_nI (show i < 6 by omega) (by omega)) (congrFun hA i) ?_
    refine ev_icmp_eq k109_76 (fun h76 => ?_) (fun h76 => ?_)
    ·
      refine ev_inc4 k109_82 rfl ?_
      refine ev_goto k109_85 ?_
      have e : fnd (jgG v A) (n + 1) i = fnd (jgG v A) n (i + 1) := if_neg (show ¬ jgG v A i = true from by unfold jgG; rw [decide_eq_true h76]; decide)
      rw [nI_1]
      exact ih (i + 1) (by omega) (e.symm.trans he)
    ·
      refine ev_ild4 k109_79 ?_
      refine ev_ri k109_81 rfl ?_
      have e : fnd (jgG v A) (n + 1) i = some i := if_pos (show jgG v A i = true from by unfold jgG; rw [decide_eq_false h76]; rfl)
      have z : jgV v A ln np m = nI i := by unfold jgV; rw [← he, e]
      rw [z] at hQ
      exact hQ
theorem lm_judge {X : Nat × (Nat → Int32)} {d : Nat} {I S : mm_I} {s ln m np nc : Nat} {v A : Nat → Int32} {P : Int32 → mm_I → Prop} (hs4 : s < 4) (hln : ln ≤ 40) (hm1 : m ≤ ln) (hm2 : m ≤ np) (hm3 : m = ln ∨ m = np) (hp6 : np ≤ 6) (rm : RM S I nc np) (hA : S 8 = A) (d2 : I 102 s = nI ln) (d4 : ∀ j, j < 40 → I 103 (40 * s + j) = v j) (hQ : P (jgV v A ln np m) I) : ∀ (n i : Nat), i + n = m → fnd (jgG v A) n i = fnd (jgG v A) m 0 → mm_Ev mm_T0 X (d + 20) 236 18 [.ref 91, .int (nI s), .int 0, .int (nI i)] [] I (mm_pi P) := by
  have tm := tM
  have tr := tR
  have q1 := t101
  have q2 := t102
  have q3 := t103
  have d3 : I 92 3 = nI np := rm.1.2.2.1
  intro n
  induction n with
  | zero =>
    intro i hi he
    have e : i = m := by omega
    subst e
    refine ev_ild3 k236_18 ?_
    refine ev_ald0 k236_19 ?_
    refine ev_getr k236_20 (by first | assumption | rfl) rfl rfl rfl ?_
    refine ev_ild1 k236_23 ?_
    refine ev_ialv (j := s) k236_24 (by first | assumption | rfl) (by omega) (nI_clamp (by omega)) (vp_in_nI (show s < 4 by omega) (by decide)) d2 ?_
    refine ev_jcmp_ge k236_25 (fun h25 => ?_) (fun h25 => ?_)
    ·
      refine ev_ild3 k236_64 ?_
      refine ev_ald0 k236_65 ?_
      refine ev_getr k236_66 (by first | assumption | rfl) rfl rfl rfl ?_
      refine ev_iconst k236_69 ?_
      refine ev_ialv (j := 3) k236_70 (by first | assumption | rfl) (by omega) rfl (vp_dec rfl) d3 ?_
      refine ev_icmp_ne k236_71 (fun h71 => ?_) (fun h71 => ?_)
      ·
        refine ev_ild3 k236_88 ?_
        refine ev_ri k236_89 rfl ?_
        have w : ¬ ln = np := by
          intro w
          exact h71 (by rcases hm3 with q | q <;> rw [q] <;> rw [w])
        have z : jgV v A ln np i = nI i := by unfold jgV; rw [← he]; exact if_neg w
        rw [z] at hQ
        exact hQ
      ·
        refine ev_ald0 k236_74 ?_
        refine ev_getr k236_75 (by first | assumption | rfl) rfl rfl rfl ?_
        refine ev_ild1 k236_78 ?_
        refine ev_ialv (j := s) k236_79 (by first | assumption | rfl) (by omega) (nI_clamp (by omega)) (vp_in_nI (show s < 4 by omega) (by decide)) d2 ?_
        refine ev_ild3 k236_80 ?_
        refine ev_icmp_ne k236_81 (fun h81 => ?_) (fun h81 => ?_)
        ·
          refine ev_ild3 k236_88 ?_
          refine ev_ri k236_89 rfl ?_
          have w : ¬ ln = np := by
            intro w
            exact h81 (by have w1 := (nI_eq (show i < 2 ^ 31 by omega) (show np < 2 ^ 31 by omega)).mp h71; rw [w, w1])
          have z : jgV v A ln np i = nI i := by unfold jgV; rw [← he]; exact if_neg w
          rw [z] at hQ
          exact hQ
        ·
          refine ev_iconst k236_84 ?_
          refine ev_goto k236_85 ?_
          refine ev_ri k236_89 rfl ?_
          have w1 := (nI_eq (show i < 2 ^ 31 by omega) (show np < 2 ^ 31 by omega)).mp h71
          have w2 := (nI_eq (show ln < 2 ^ 31 by omega) (show i < 2 ^ 31 by omega)).mp h81
          have z : jgV v A ln np i = -1 := by unfold jgV; rw [← he]; exact if_pos (by omega)
          rw [z] at hQ
          exact hQ
    ·
      refine ev_ild3 k236_28 ?_
      refine ev_ald0 k236_29 ?_
      refine ev_getr k236_30 (by first | assumption | rfl) rfl rfl rfl ?_
      refine ev_iconst k236_33 ?_
      refine ev_ialv (j := 3) k236_34 (by first | assumption | rfl) (by omega) rfl (vp_dec rfl) d3 ?_
      refine ev_jcmp_ge k236_35 (fun h35 => ?_) (fun h35 => absurd ((nI_ltI (show i < 2 ^ 31 by omega) (show np < 2 ^ 31 by omega)).mp h35) (by have := (nI_ltI (show i < 2 ^ 31 by omega) (show ln < 2 ^ 31 by omega)).mp h25; omega))
      refine ev_ild3 k236_64 ?_
      refine ev_ald0 k236_65 ?_
      refine ev_getr k236_66 (by first | assumption | rfl) rfl rfl rfl ?_
      refine ev_iconst k236_69 ?_
      refine ev_ialv (j := 3) k236_70 (by first | assumption | rfl) (by omega) rfl (vp_dec rfl) d3 ?_
      refine ev_icmp_ne k236_71 (fun h71 => ?_) (fun h71 => ?_)
      ·
        refine ev_ild3 k236_88 ?_
        refine ev_ri k236_89 rfl ?_
        have w : ¬ ln = np := by
          intro w
          exact h71 (by rcases hm3 with q | q <;> rw [q] <;> rw [w])
        have z : jgV v A ln np i = nI i := by unfold jgV; rw [← he]; exact if_neg w
        rw [z] at hQ
        exact hQ
      ·
        refine ev_ald0 k236_74 ?_
        refine ev_getr k236_75 (by first | assumption | rfl) rfl rfl rfl ?_
        refine ev_ild1 k236_78 ?_
        refine ev_ialv (j := s) k236_79 (by first | assumption | rfl) (by omega) (nI_clamp (by omega)) (vp_in_nI (show s < 4 by omega) (by decide)) d2 ?_
        refine ev_ild3 k236_80 ?_
        refine ev_icmp_ne k236_81 (fun h81 => ?_) (fun h81 => ?_)
        ·
          refine ev_ild3 k236_88 ?_
          refine ev_ri k236_89 rfl ?_
          have w : ¬ ln = np := by
            intro w
            exact h81 (by have w1 := (nI_eq (show i < 2 ^ 31 by omega) (show np < 2 ^ 31 by omega)).mp h71; rw [w, w1])
          have z : jgV v A ln np i = nI i := by unfold jgV; rw [← he]; exact if_neg w
          rw [z] at hQ
          exact hQ
        ·
          refine ev_iconst k236_84 ?_
          refine ev_goto k236_85 ?_
          refine ev_ri k236_89 rfl ?_
          have w1 := (nI_eq (show i < 2 ^ 31 by omega) (show np < 2 ^ 31 by omega)).mp h71
          have w2 := (nI_eq (show ln < 2 ^ 31 by omega) (show i < 2 ^ 31 by omega)).mp h81
          have z : jgV v A ln np i = -1 := by unfold jgV; rw [← he]; exact if_pos (by omega)
          rw [z] at hQ
          exact hQ
  | succ n ih =>
    intro i hi he
    have hlt : i < m := by omega
    refine ev_ild3 k236_18 ?_
    refine ev_ald0 k236_19 ?_
    refine ev_getr k236_20 (by first | assumption | rfl) rfl rfl rfl ?_
    refine ev_ild1 k236_23 ?_
    refine ev_ialv (j := s) k236_24 (by first | assumption | rfl) (by omega) (nI_clamp (by omega)) (vp_in_nI (show s < 4 by omega) (by decide)) d2 ?_
    refine ev_jcmp_ge k236_25 (fun h25 => absurd (nI_lt (show i < ln by omega) (by omega)) h25) (fun h25 => ?_)
    refine ev_ild3 k236_28 ?_
    refine ev_ald0 k236_29 ?_
    refine ev_getr k236_30 (by first | assumption | rfl) rfl rfl rfl ?_
    refine ev_iconst k236_33 ?_
    refine ev_ialv (j := 3) k236_34 (by first | assumption | rfl) (by omega) rfl (vp_dec rfl) d3 ?_
    refine ev_jcmp_ge k236_35 (fun h35 => absurd (nI_lt (show i < np by omega) (by omega)) h35) (fun h35 => ?_)
    refine ev_ald0 k236_38 ?_
    refine ev_getr k236_39 (by first | assumption | rfl) rfl rfl rfl ?_
    refine ev_bipush k236_42 ?_
    refine ev_ild1 k236_44 ?_
    refine ev_imul k236_45 ?_
    refine ev_ild3 k236_46 ?_
    refine ev_iadd k236_47 ?_
    rw [idxC]
    refine ev_ialv (j := (40 * s + i)) k236_48 (by first | assumption | rfl) (by omega) (nI_clamp (by omega)) (vp_in_nI (show 40 * s + i < 160 by omega) (by omega)) (d4 i (by omega)) ?_
    refine ev_ald0 k236_49 ?_
    refine ev_ild3 k236_50 ?_
    refine ev_iconst k236_51 ?_
    refine ev_cV3i k236_52 cs_225 (by first | assumption | rfl) (by omega) (Nat.le_of_ble_eq_true rfl) rfl rfl rfl ?_
    refine sm_aboutv (w := 2) (v := A i) (show i < 6 by omega) (by decide) ((rm.2.2.1 i (by omega)).2.2.trans (congrFun hA i)) ?_
    refine ev_icmp_ne k236_55 (fun h55 => ?_) (fun h55 => ?_)
    ·
      refine ev_ild3 k236_64 ?_
      refine ev_ald0 k236_65 ?_
      refine ev_getr k236_66 (by first | assumption | rfl) rfl rfl rfl ?_
      refine ev_iconst k236_69 ?_
      refine ev_ialv (j := 3) k236_70 (by first | assumption | rfl) (by omega) rfl (vp_dec rfl) d3 ?_
      refine ev_icmp_ne k236_71 (fun h71 => ?_) (fun h71 => absurd ((nI_eq (show i < 2 ^ 31 by omega) (show np < 2 ^ 31 by omega)).mp h71) (by omega))
      refine ev_ild3 k236_88 ?_
      refine ev_ri k236_89 rfl ?_
      have e : fnd (jgG v A) (n + 1) i = some i := if_pos (show jgG v A i = true from by unfold jgG; rw [decide_eq_false h55]; rfl)
      have z : jgV v A ln np m = nI i := by unfold jgV; rw [← he, e]
      rw [z] at hQ
      exact hQ
    ·
      refine ev_inc3 k236_58 rfl ?_
      refine ev_goto k236_61 ?_
      have e : fnd (jgG v A) (n + 1) i = fnd (jgG v A) n (i + 1) := if_neg (show ¬ jgG v A i = true from by unfold jgG; rw [decide_eq_true h55]; decide)
      rw [nI_1]
      exact ih (i + 1) (by omega) (e.symm.trans he)
/-- CV.judge -/
theorem op_judge {X : Nat × (Nat → Int32)} {d : Nat} {I : mm_I} {P : Int32 → mm_I → Prop} {a : Int32} (inv : Inv I) (hQ : ∀ v J, mm_Ev mm_T0 X (d + 60) 236 0 (mm_ent 236 [.ref 91, .int a]) [] J (mm_pi fun w K => w = v ∧ Inv K) → P v J) : mm_Ev mm_T0 X (d + 60) 109 0 (mm_ent 109 [.ref 0, .int a]) [] I (mm_pi P) := by
  show mm_Ev mm_T0 X (d + 60) 109 0 [.ref 0, .int a, .retAddr 0, .retAddr 0, .retAddr 0] [] I (mm_pi P)
  obtain ⟨nc, np, hs⟩ := inv.1
  obtain ⟨c1, n6, p1, p6, rc, rp, rm, ok, sr, tt⟩ := hsF hs
  have t0 := tCV
  have tm := tM
  have tr := tR
  have q1 := t101
  have q2 := t102
  have q3 := t103
  refine ev_ild1 k109_0 ?_
  refine ev_cS1i k109_1 cs_206 rfl rfl rfl ?_
  refine sp_isSheet ?_
  refine ev_ifz_ne k109_4 (fun h4 => ?_) (fun h4 => ?_)
  ·
    obtain ⟨s, hs4, rfl⟩ := wB_le (hi := 3) (by omega) h4
    replace hs4 : s < 4 := by omega
    obtain ⟨ln, bn, hln, hbn, c1, c2, c3, c4, c5⟩ := inv.2.2.2.2.1 s hs4
    have ts0 := tS0 hs4
    have ts1 := tS1 hs4
    refine ev_ald0 k109_14 ?_
    refine ev_ild1 k109_15 ?_
    refine ev_cV2i k109_16 cs_218 (by first | assumption | rfl) (by omega) (Nat.le_of_ble_eq_true rfl) rfl rfl rfl ?_
    refine sp_isMissing hs4 c1 ?_
    refine ev_ifz_eq k109_19 (fun h19 => ?_) (fun h19 => ?_)
    ·
      refine ev_ald0 k109_29 ?_
      refine ev_getr k109_30 (by first | assumption | rfl) rfl rfl rfl ?_
      refine ev_ild1 k109_33 ?_
      refine ev_aaload k109_34 (by first | assumption | rfl) (by decide) (vp_in_nI (show s < 4 by omega) (by decide)) (tSa hs4) ?_
      refine ev_ast2 k109_35 rfl ?_
      refine ev_ald2 k109_36 ?_
      refine ev_gfv (j := 2) k109_37 (by first | assumption | rfl) rfl rfl rfl rfl c3 ?_
      refine ev_ald0 k109_40 ?_
      refine ev_getr k109_41 (by first | assumption | rfl) rfl rfl rfl ?_
      refine ev_gfv (j := 7) k109_44 (by first | assumption | rfl) rfl rfl rfl rfl p1 ?_
      refine ev_min k109_47 rfl ?_
      rw [mN_I (by omega) (by omega)]
      obtain ⟨m1, m2, m3⟩ := mN_le ln np
      generalize mN ln np = m at m1 m2 m3 ⊢
      refine ev_ist3 k109_50 rfl ?_
      refine ev_iconst k109_51 ?_
      refine ev_ist4 k109_52 rfl ?_
      refine lp_judge (m := m) hs4 hln c3 m1 m2 p6 rfl rfl p1 ?_ m 0 (by omega) rfl
      refine hQ _ _ ?_
      show mm_Ev mm_T0 X (d + 60) 236 0 [.ref 91, .int _, .retAddr 0, .retAddr 0] [] _ (mm_pi _)
      refine ev_ald0 k236_0 ?_
      refine ev_ild1 k236_1 ?_
      refine ev_cV2i k236_2 cs_288 (by first | assumption | rfl) (by omega) (Nat.le_of_ble_eq_true rfl) rfl rfl rfl ?_
      refine sm_nt3 h4 hs4 (show _ = _ from c2) (of_decide_eq_false h19) ?_
      refine ev_ist2 k236_5 rfl ?_
      refine ev_ild2 k236_6 ?_
      refine ev_if_eq k236_7 (fun g7 => ?_) (fun g7 => absurd rfl g7)
      refine ev_iconst k236_16 ?_
      refine ev_ist3 k236_17 rfl ?_
      refine lm_judge (S := cells I 11) (v := I (80 + 2 * s + 1)) (A := I 19) (ln := ln) (m := m) (np := np) (nc := nc) hs4 hln m1 m2 m3 p6 rm rfl c4 (fun j hj => (c5 j hj).symm.trans (by rw [show 81 + 2 * s = 80 + 2 * s + 1 by omega])) ?_ m 0 (by omega) rfl
      exact ⟨rfl, inv⟩
    ·
      refine ev_ald0 k109_22 ?_
      refine ev_ldc k109_23 ?_
      refine ev_cV2i k109_25 cs_174 (by first | assumption | rfl) (by omega) (Nat.le_of_ble_eq_true rfl) rfl rfl rfl ?_
      refine sp_error (k := 2) (by decide) (by decide) (by decide) ?_
      refine ev_ri k109_28 rfl ?_
      refine hQ _ _ ?_
      show mm_Ev mm_T0 X (d + 60) 236 0 [.ref 91, .int _, .retAddr 0, .retAddr 0] [] _ (mm_pi _)
      refine ev_ald0 k236_0 ?_
      refine ev_ild1 k236_1 ?_
      refine ev_cV2i k236_2 cs_288 (by first | assumption | rfl) (by omega) (Nat.le_of_ble_eq_true rfl) rfl rfl rfl ?_
      refine sm_nt2 h4 hs4 (show _ = _ from c2) (of_decide_eq_true h19) ?_
      refine ev_ist2 k236_5 rfl ?_
      refine ev_ild2 k236_6 ?_
      refine ev_if_eq k236_7 (fun g7 => absurd g7 (by decide)) (fun g7 => ?_)
      refine ev_ald0 k236_10 ?_
      refine ev_ild2 k236_11 ?_
      refine ev_cV2i k236_12 cs_238 (by first | assumption | rfl) (by omega) (Nat.le_of_ble_eq_true rfl) rfl rfl rfl ?_
      refine sm_error (k := 2) (by decide) (by decide) ?_
      refine ev_ri k236_15 rfl ?_
      first | exact ⟨rfl, Inv_e rfl rfl inv⟩ | exact ⟨rfl, inv⟩
  ·
    refine ev_ald0 k109_7 ?_
    refine ev_ldc k109_8 ?_
    refine ev_cV2i k109_10 cs_174 (by first | assumption | rfl) (by omega) (Nat.le_of_ble_eq_true rfl) rfl rfl rfl ?_
    refine sp_error (k := 1) (by decide) (by decide) (by decide) ?_
    refine ev_ri k109_13 rfl ?_
    refine hQ _ _ ?_
    show mm_Ev mm_T0 X (d + 60) 236 0 [.ref 91, .int _, .retAddr 0, .retAddr 0] [] _ (mm_pi _)
    refine ev_ald0 k236_0 ?_
    refine ev_ild1 k236_1 ?_
    refine ev_cV2i k236_2 cs_288 (by first | assumption | rfl) (by omega) (Nat.le_of_ble_eq_true rfl) rfl rfl rfl ?_
    refine sm_nt1 h4 ?_
    refine ev_ist2 k236_5 rfl ?_
    refine ev_ild2 k236_6 ?_
    refine ev_if_eq k236_7 (fun g7 => absurd g7 (by decide)) (fun g7 => ?_)
    refine ev_ald0 k236_10 ?_
    refine ev_ild2 k236_11 ?_
    refine ev_cV2i k236_12 cs_238 (by first | assumption | rfl) (by omega) (Nat.le_of_ble_eq_true rfl) rfl rfl rfl ?_
    refine sm_error (k := 1) (by decide) (by decide) ?_
    refine ev_ri k236_15 rfl ?_
    first | exact ⟨rfl, Inv_e rfl rfl inv⟩ | exact ⟨rfl, inv⟩
