/-! The reference: one row of numbers (cell 92) -/
abbrev mC : mm_C := (12, 19, [.ref 92, .ref 93, .ref 94, .int 0, .ref 95, .ref 96, .ref 97, .ref 98, .ref 99, .int 0, .int 0, .int 0, .int 0, .int 0, .ref 100, .int 0, .ref 101, .ref 102, .ref 103])
theorem tM : mm_T0[91]? = some mC := rfl
theorem tR : mm_T0[92]? = some (aC 321) := rfl
theorem tR2 : mm_T0[93]? = some (aC 321) := rfl
theorem tR3 : mm_T0[94]? = some (aC 321) := rfl
theorem tMe : mm_T0[95]? = some (aC 6) := rfl
theorem tMf : mm_T0[98]? = some (aC 3) := rfl
theorem tMp : mm_T0[99]? = some (aC 50) := rfl
/-- what the row says of a house S -/
def RM (S I : mm_I) (nc np : Nat) : Prop := (I 92 2 = nI nc ∧ nc ≤ 6 ∧ I 92 3 = nI np ∧ np ≤ 6 ∧ S 0 1 = nI nc ∧ S 0 7 = nI np) ∧ (∀ c, c < nc → I 92 (7 + 4 * c) = S 1 c ∧ I 92 (7 + 4 * c + 1) = S 2 c ∧ I 92 (7 + 4 * c + 2) = S 3 c ∧ I 92 (7 + 4 * c + 3) = S 4 c) ∧ (∀ p, p < np → I 92 (31 + 3 * p) = S 6 p ∧ I 92 (31 + 3 * p + 1) = S 7 p ∧ I 92 (31 + 3 * p + 2) = S 8 p) ∧ (I 92 0 = S 0 16 ∧ I 92 1 = S 0 17 ∧ I 92 4 = S 0 15)
/-- the house's numbers are in their ranges -/
def sR (S : mm_I) (nc np : Nat) : Prop := (∀ c, c < nc → ∃ k m v u : Nat, k < 7 ∧ m < 10 ∧ v < 256 ∧ u < 256 ∧ S 1 c = nI k ∧ S 2 c = nI m ∧ S 3 c = nI v ∧ S 4 c = nI u) ∧ (∀ p, p < np → ∃ s h : Nat, s < 100 ∧ h < 8 ∧ S 6 p = nI s ∧ S 7 p = nI h ∧ (S 8 p = -1 ∨ ∃ c, c < nc ∧ S 8 p = nI c)) ∧ (∀ p q, p < np → q < np → S 8 p = S 8 q → S 8 p ≠ -1 → p = q)
theorem idx4 (c w : Nat) : (7 : Int32) + 4 * nI c + nI w = nI (7 + 4 * c + w) := by
  rw [show (7 : Int32) = nI 7 from rfl, show (4 : Int32) = nI 4 from rfl, pk_mul, nI_add, nI_add]
theorem idx3 (c w : Nat) : (31 : Int32) + 3 * nI c + nI w = nI (31 + 3 * c + w) := by
  rw [show (31 : Int32) = nI 31 from rfl, show (3 : Int32) = nI 3 from rfl, pk_mul, nI_add, nI_add]
/-- Model.of -/
theorem sm_of {X : Nat × (Nat → Int32)} {d : Nat} {I : mm_I} {c w : Nat} {P : Int32 → mm_I → Prop} (hc : c < 6) (hw : w < 4) (hQ : P (I 92 (7 + 4 * c + w)) I) : mm_Ev mm_T0 X (d) 146 0 (mm_ent 146 [.ref 91, .int (nI c), .int (nI w)]) [] I (mm_pi P) := by
  show mm_Ev mm_T0 X (d) 146 0 [.ref 91, .int (nI c), .int (nI w)] [] I (mm_pi P)
  have tm := tM
  have tr := tR
  refine ev_ald0 k146_0 ?_
  refine ev_getr k146_1 (by first | assumption | rfl) rfl rfl rfl ?_
  refine ev_bipush k146_4 ?_
  refine ev_iconst k146_6 ?_
  refine ev_ild1 k146_7 ?_
  refine ev_imul k146_8 ?_
  refine ev_iadd k146_9 ?_
  refine ev_ild2 k146_10 ?_
  refine ev_iadd k146_11 ?_
  rw [idx4]
  refine ev_ial (j := 7 + 4 * c + w) k146_12 (by first | assumption | rfl) (by omega) (nI_clamp (by omega)) (vp_in_nI (show 7 + 4 * c + w < 321 by omega) (by omega)) ?_
  refine ev_ri k146_13 rfl ?_
  exact hQ
/-- Model.about -/
theorem sm_about {X : Nat × (Nat → Int32)} {d : Nat} {I : mm_I} {c w : Nat} {P : Int32 → mm_I → Prop} (hc : c < 6) (hw : w < 3) (hQ : P (I 92 (31 + 3 * c + w)) I) : mm_Ev mm_T0 X (d) 147 0 (mm_ent 147 [.ref 91, .int (nI c), .int (nI w)]) [] I (mm_pi P) := by
  show mm_Ev mm_T0 X (d) 147 0 [.ref 91, .int (nI c), .int (nI w)] [] I (mm_pi P)
  have tm := tM
  have tr := tR
  refine ev_ald0 k147_0 ?_
  refine ev_getr k147_1 (by first | assumption | rfl) rfl rfl rfl ?_
  refine ev_bipush k147_4 ?_
  refine ev_iconst k147_6 ?_
  refine ev_ild1 k147_7 ?_
  refine ev_imul k147_8 ?_
  refine ev_iadd k147_9 ?_
  refine ev_ild2 k147_10 ?_
  refine ev_iadd k147_11 ?_
  rw [idx3]
  refine ev_ial (j := 31 + 3 * c + w) k147_12 (by first | assumption | rfl) (by omega) (nI_clamp (by omega)) (vp_in_nI (show 31 + 3 * c + w < 321 by omega) (by omega)) ?_
  refine ev_ri k147_13 rfl ?_
  exact hQ
/-- Model.lets -/
theorem sm_lets {X : Nat × (Nat → Int32)} {d : Nat} {I : mm_I} {c w : Nat} {v : Int32} {P : mm_I → Prop} (hc : c < 6) (hw : w < 3) (hQ : P (mm_up I 92 (31 + 3 * c + w) v)) : mm_Ev mm_T0 X (d) 148 0 (mm_ent 148 [.ref 91, .int (nI c), .int (nI w), .int v]) [] I (mm_pv P) := by
  show mm_Ev mm_T0 X (d) 148 0 [.ref 91, .int (nI c), .int (nI w), .int v] [] I (mm_pv P)
  have tm := tM
  have tr := tR
  refine ev_ald0 k148_0 ?_
  refine ev_getr k148_1 (by first | assumption | rfl) rfl rfl rfl ?_
  refine ev_bipush k148_4 ?_
  refine ev_iconst k148_6 ?_
  refine ev_ild1 k148_7 ?_
  refine ev_imul k148_8 ?_
  refine ev_iadd k148_9 ?_
  refine ev_ild2 k148_10 ?_
  refine ev_iadd k148_11 ?_
  rw [idx3]
  refine ev_ild3 k148_12 ?_
  refine ev_ias (j := 31 + 3 * c + w) k148_13 (by first | assumption | rfl) (nI_clamp (by omega)) (vp_in_nI (show 31 + 3 * c + w < 321 by omega) (by omega)) ?_
  refine ev_rv k148_14 rfl ?_
  exact hQ
/-- Model.becomes -/
theorem sm_becomes {X : Nat × (Nat → Int32)} {d : Nat} {I : mm_I} {j : Nat} {v : Int32} {P : Int32 → mm_I → Prop} (hj : j < 321) (hQ : P (I 92 j) (mm_up I 92 j v)) : mm_Ev mm_T0 X (d) 145 0 (mm_ent 145 [.ref 91, .int (nI j), .int v]) [] I (mm_pi P) := by
  show mm_Ev mm_T0 X (d) 145 0 [.ref 91, .int (nI j), .int v, .retAddr 0] [] I (mm_pi P)
  have tm := tM
  have tr := tR
  refine ev_ald0 k145_0 ?_
  refine ev_getr k145_1 (by first | assumption | rfl) rfl rfl rfl ?_
  refine ev_ild1 k145_4 ?_
  refine ev_ial (j := j) k145_5 (by first | assumption | rfl) (by omega) (nI_clamp (by omega)) (vp_in_nI hj (by omega)) ?_
  refine ev_ist3 k145_6 rfl ?_
  refine ev_ald0 k145_7 ?_
  refine ev_getr k145_8 (by first | assumption | rfl) rfl rfl rfl ?_
  refine ev_ild1 k145_11 ?_
  refine ev_ild2 k145_12 ?_
  refine ev_ias (j := j) k145_13 (by first | assumption | rfl) (nI_clamp (by omega)) (vp_in_nI hj (by omega)) ?_
  refine ev_ild3 k145_14 ?_
  refine ev_ri k145_15 rfl ?_
  exact hQ
/-- Model.error -/
theorem sm_error {X : Nat × (Nat → Int32)} {d : Nat} {I : mm_I} {e : Int32} {k : Nat} {P : Int32 → mm_I → Prop} (he : -1000000000 - e = nI k) (hk : k < 6) (hQ : P e (mm_up I 95 k (I 95 k + 1))) : mm_Ev mm_T0 X (d) 137 0 (mm_ent 137 [.ref 91, .int e]) [] I (mm_pi P) := by
  show mm_Ev mm_T0 X (d) 137 0 [.ref 91, .int e] [] I (mm_pi P)
  have tm := tM
  have tr := tR
  have te := tMe
  refine ev_ald0 k137_0 ?_
  refine ev_getr k137_1 (by first | assumption | rfl) rfl rfl rfl ?_
  refine ev_ldc k137_4 ?_
  refine ev_ild1 k137_6 ?_
  refine ev_isub k137_7 ?_
  rw [he]
  refine ev_dup2 k137_8 rfl rfl ?_
  refine ev_ial (j := k) k137_9 (by first | assumption | rfl) (by omega) (nI_clamp (by omega)) (vp_in_nI hk (by omega)) ?_
  refine ev_iconst k137_10 ?_
  refine ev_iadd k137_11 ?_
  refine ev_ias (j := k) k137_12 (by first | assumption | rfl) (nI_clamp (by omega)) (vp_in_nI hk (by omega)) ?_
  refine ev_ild1 k137_13 ?_
  refine ev_ri k137_14 rfl ?_
  exact hQ
/-- Model.isChair -/
theorem sm_isChair {X : Nat × (Nat → Int32)} {d : Nat} {I : mm_I} {v : Int32} {P : Int32 → mm_I → Prop} (hQ : P (bI (wB 0 (I 92 2 - 1) v)) I) : mm_Ev mm_T0 X (d + 1) 142 0 (mm_ent 142 [.ref 91, .int v]) [] I (mm_pi P) := by
  show mm_Ev mm_T0 X (d + 1) 142 0 [.ref 91, .int v] [] I (mm_pi P)
  have tm := tM
  have tr := tR
  refine ev_ild1 k142_0 ?_
  refine ev_iconst k142_1 ?_
  refine ev_ald0 k142_2 ?_
  refine ev_getr k142_3 (by first | assumption | rfl) rfl rfl rfl ?_
  refine ev_iconst k142_6 ?_
  refine ev_ial (j := 2) k142_7 (by first | assumption | rfl) (by omega) rfl (vp_dec rfl) ?_
  refine ev_iconst k142_8 ?_
  refine ev_isub k142_9 ?_
  refine ev_cS3i k142_10 cs_224 rfl rfl rfl ?_
  refine sp_in ?_
  refine ev_rz k142_13 rfl (by first | exact bI01 _ | exact Or.inl rfl | exact Or.inr rfl | assumption) ?_
  exact hQ
/-- Model.isMember -/
theorem sm_isMember {X : Nat × (Nat → Int32)} {d : Nat} {I : mm_I} {v : Int32} {P : Int32 → mm_I → Prop} (hQ : P (bI (wB 0 (I 92 3 - 1) v)) I) : mm_Ev mm_T0 X (d + 1) 143 0 (mm_ent 143 [.ref 91, .int v]) [] I (mm_pi P) := by
  show mm_Ev mm_T0 X (d + 1) 143 0 [.ref 91, .int v] [] I (mm_pi P)
  have tm := tM
  have tr := tR
  refine ev_ild1 k143_0 ?_
  refine ev_iconst k143_1 ?_
  refine ev_ald0 k143_2 ?_
  refine ev_getr k143_3 (by first | assumption | rfl) rfl rfl rfl ?_
  refine ev_iconst k143_6 ?_
  refine ev_ial (j := 3) k143_7 (by first | assumption | rfl) (by omega) rfl (vp_dec rfl) ?_
  refine ev_iconst k143_8 ?_
  refine ev_isub k143_9 ?_
  refine ev_cS3i k143_10 cs_224 rfl rfl rfl ?_
  refine sp_in ?_
  refine ev_rz k143_13 rfl (by first | exact bI01 _ | exact Or.inl rfl | exact Or.inr rfl | assumption) ?_
  exact hQ
theorem lm_whoAt {X : Nat × (Nat → Int32)} {d : Nat} {I : mm_I} {S : mm_I} {nc np : Nat} {c : Int32} {P : Int32 → mm_I → Prop} (rm : RM S I nc np)  : ∀ (n i : Nat) , i + n = np → P (match fnd (fun p => decide (S (0 + 8) p = c)) n i with | some p => nI p | none => -1) I → mm_Ev mm_T0 X (d + 1) 149 2 [.ref 91, .int c, .int (nI i)] [] I (mm_pi P) := by
  have tm := tM
  have tr := tR
  intro n
  induction n with
  | zero =>
    intro i  hi hQ
    have hnp := rm.1.2.2.2.1
    have hnc := rm.1.2.1
    have e : i = np := by omega
    subst e
    refine ev_ild2 k149_2 ?_
    refine ev_ald0 k149_3 ?_
    refine ev_getr k149_4 (by first | assumption | rfl) rfl rfl rfl ?_
    refine ev_iconst k149_7 ?_
    refine ev_ial (j := 3) k149_8 (by first | assumption | rfl) (by omega) rfl (vp_dec rfl) ?_
    rw [rm.1.2.2.1]
    refine ev_jcmp_ge k149_9 (fun h9 => ?_) (fun h9 => absurd h9 (nI_nlt (Nat.le_refl _) (by omega)))
    refine ev_iconst k149_30 ?_
    refine ev_ri k149_31 rfl ?_
    exact hQ
  | succ n ih =>
    intro i  hi hQ
    have hnp := rm.1.2.2.2.1
    have hnc := rm.1.2.1
    have hlt : i < np := by omega
    refine ev_ild2 k149_2 ?_
    refine ev_ald0 k149_3 ?_
    refine ev_getr k149_4 (by first | assumption | rfl) rfl rfl rfl ?_
    refine ev_iconst k149_7 ?_
    refine ev_ial (j := 3) k149_8 (by first | assumption | rfl) (by omega) rfl (vp_dec rfl) ?_
    rw [rm.1.2.2.1]
    refine ev_jcmp_ge k149_9 (fun h9 => absurd (nI_lt hlt (by omega)) h9) (fun h9 => ?_)
    refine ev_ald0 k149_12 ?_
    refine ev_ild2 k149_13 ?_
    refine ev_iconst k149_14 ?_
    refine ev_cV3i k149_15 cs_225 (by first | assumption | rfl) (by omega) (Nat.le_of_ble_eq_true rfl) rfl rfl rfl ?_
    refine sm_about (w := 2) (show i < 6 by omega) (by omega) ?_
    rw [show I 92 (31 + 3 * i + 2) = S 8 i from (rm.2.2.1 i (by omega)).2.2]
    refine ev_ild1 k149_18 ?_
    refine ev_icmp_ne k149_19 (fun h19 => ?_) (fun h19 => ?_)
    ·
      refine ev_inc2 k149_24 rfl ?_
      refine ev_goto k149_27 ?_
      rw [nI_1]
      refine ih (i + 1) (by omega) ?_
      simp only [fnd, h19, decide_false, Bool.false_eq_true, if_false] at hQ
      exact hQ
    ·
      refine ev_ild2 k149_22 ?_
      refine ev_ri k149_23 rfl ?_
      simp only [fnd, h19, decide_true, if_true] at hQ
      exact hQ
/-- Model.whoAt -/
theorem sm_whoAt {X : Nat × (Nat → Int32)} {d : Nat} {I : mm_I} {S : mm_I} {nc np : Nat} {c : Int32} {P : Int32 → mm_I → Prop} (rm : RM S I nc np) (hQ : P (hSt S 0 np c) I) : mm_Ev mm_T0 X (d + 1) 149 0 (mm_ent 149 [.ref 91, .int c]) [] I (mm_pi P) := by
  show mm_Ev mm_T0 X (d + 1) 149 0 [.ref 91, .int c, .retAddr 0] [] I (mm_pi P)
  refine ev_iconst k149_0 ?_
  refine ev_ist2 k149_1 rfl ?_
  exact lm_whoAt rm np 0 (by omega) hQ
theorem m1_lt : (-1 : Int32) < 0 := by decide
theorem or0 (t : Int32) : t ||| 0 = t := by
  apply Int32.toBitVec_inj.mp
  simp
theorem lm_taken {X : Nat × (Nat → Int32)} {d : Nat} {I : mm_I} {S : mm_I} {nc np : Nat} {P : Int32 → mm_I → Prop} (rm : RM S I nc np) (sr : sR S nc np)  : ∀ (n i : Nat) (t : Int32), i + n = np → P (fo (hTs (S 8)) n i t) I → mm_Ev mm_T0 X (d + 1) 150 4 [.ref 91, .int t, .int (nI i)] [] I (mm_pi P) := by
  have tm := tM
  have tr := tR
  intro n
  induction n with
  | zero =>
    intro i t hi hQ
    have hnp := rm.1.2.2.2.1
    have hnc := rm.1.2.1
    have e : i = np := by omega
    subst e
    refine ev_ild2 k150_4 ?_
    refine ev_ald0 k150_5 ?_
    refine ev_getr k150_6 (by first | assumption | rfl) rfl rfl rfl ?_
    refine ev_iconst k150_9 ?_
    refine ev_ial (j := 3) k150_10 (by first | assumption | rfl) (by omega) rfl (vp_dec rfl) ?_
    rw [rm.1.2.2.1]
    refine ev_jcmp_ge k150_11 (fun h11 => ?_) (fun h11 => absurd h11 (nI_nlt (Nat.le_refl _) (by omega)))
    refine ev_ild1 k150_44 ?_
    refine ev_ri k150_45 rfl ?_
    exact hQ
  | succ n ih =>
    intro i t hi hQ
    have hnp := rm.1.2.2.2.1
    have hnc := rm.1.2.1
    have hlt : i < np := by omega
    refine ev_ild2 k150_4 ?_
    refine ev_ald0 k150_5 ?_
    refine ev_getr k150_6 (by first | assumption | rfl) rfl rfl rfl ?_
    refine ev_iconst k150_9 ?_
    refine ev_ial (j := 3) k150_10 (by first | assumption | rfl) (by omega) rfl (vp_dec rfl) ?_
    rw [rm.1.2.2.1]
    refine ev_jcmp_ge k150_11 (fun h11 => absurd (nI_lt hlt (by omega)) h11) (fun h11 => ?_)
    refine ev_ild1 k150_14 ?_
    refine ev_ald0 k150_15 ?_
    refine ev_ild2 k150_16 ?_
    refine ev_iconst k150_17 ?_
    refine ev_cV3i k150_18 cs_225 (by first | assumption | rfl) (by omega) (Nat.le_of_ble_eq_true rfl) rfl rfl rfl ?_
    refine sm_about (w := 2) (show i < 6 by omega) (by omega) ?_
    rw [show I 92 (31 + 3 * i + 2) = S 8 i from (rm.2.2.1 i (by omega)).2.2]
    refine ev_if_lt k150_21 (fun h21 => ?_) (fun h21 => ?_)
    ·
      refine ev_iconst k150_35 ?_
      refine ev_ior k150_36 ?_
      refine ev_ist1 k150_37 rfl ?_
      refine ev_inc2 k150_38 rfl ?_
      refine ev_goto k150_41 ?_
      rw [nI_1]
      refine ih (i + 1) _ (by omega) ?_
      have e1 : fo (hTs (S 8)) (n + 1) i t = fo (hTs (S 8)) n (i + 1) (hTs (S 8) i t) := rfl
      rw [e1] at hQ
      obtain ⟨s0, h0, -, -, -, -, hat⟩ := sr.2.1 i (by omega)
      rcases hat with hat | ⟨c0, hc0, hat⟩
      · first | (rw [show hTs (S 8) i t = t from if_pos hat] at hQ; rw [or0]; exact hQ) | exact absurd (by rw [hat]; exact m1_lt) h21
      · first | exact absurd h21 (by rw [hat]; exact nI_pos (by omega)) | (rw [show hTs (S 8) i t = t ||| (1 <<< (S 8 i &&& 31)) from if_neg (by rw [hat]; exact fun z => absurd (show nI c0 < 0 by rw [z]; exact m1_lt) (nI_pos (by omega)))] at hQ; exact hQ)
    ·
      refine ev_iconst k150_24 ?_
      refine ev_ald0 k150_25 ?_
      refine ev_ild2 k150_26 ?_
      refine ev_iconst k150_27 ?_
      refine ev_cV3i k150_28 cs_225 (by first | assumption | rfl) (by omega) (Nat.le_of_ble_eq_true rfl) rfl rfl rfl ?_
      refine sm_about (w := 2) (show i < 6 by omega) (by omega) ?_
      rw [show I 92 (31 + 3 * i + 2) = S 8 i from (rm.2.2.1 i (by omega)).2.2]
      refine ev_ishl k150_31 ?_
      refine ev_goto k150_32 ?_
      refine ev_ior k150_36 ?_
      refine ev_ist1 k150_37 rfl ?_
      refine ev_inc2 k150_38 rfl ?_
      refine ev_goto k150_41 ?_
      rw [nI_1]
      refine ih (i + 1) _ (by omega) ?_
      have e1 : fo (hTs (S 8)) (n + 1) i t = fo (hTs (S 8)) n (i + 1) (hTs (S 8) i t) := rfl
      rw [e1] at hQ
      obtain ⟨s0, h0, -, -, -, -, hat⟩ := sr.2.1 i (by omega)
      rcases hat with hat | ⟨c0, hc0, hat⟩
      · first | (rw [show hTs (S 8) i t = t from if_pos hat] at hQ; rw [or0]; exact hQ) | exact absurd (by rw [hat]; exact m1_lt) h21
      · first | exact absurd h21 (by rw [hat]; exact nI_pos (by omega)) | (rw [show hTs (S 8) i t = t ||| (1 <<< (S 8 i &&& 31)) from if_neg (by rw [hat]; exact fun z => absurd (show nI c0 < 0 by rw [z]; exact m1_lt) (nI_pos (by omega)))] at hQ; exact hQ)
/-- Model.taken -/
theorem sm_taken {X : Nat × (Nat → Int32)} {d : Nat} {I : mm_I} {S : mm_I} {nc np : Nat} {P : Int32 → mm_I → Prop} (rm : RM S I nc np) (sr : sR S nc np) (hQ : P (hTk S 0 np) I) : mm_Ev mm_T0 X (d + 1) 150 0 (mm_ent 150 [.ref 91]) [] I (mm_pi P) := by
  show mm_Ev mm_T0 X (d + 1) 150 0 [.ref 91, .retAddr 0, .retAddr 0] [] I (mm_pi P)
  refine ev_iconst k150_0 ?_
  refine ev_ist1 k150_1 rfl ?_
  refine ev_iconst k150_2 ?_
  refine ev_ist2 k150_3 rfl ?_
  exact lm_taken rm sr np 0 0 (by omega) hQ
/-- Model.isFor -/
theorem sm_isFor {X : Nat × (Nat → Int32)} {d : Nat} {I : mm_I} {S : mm_I} {nc np c : Nat} {b : Int32} {P : Int32 → mm_I → Prop} (rm : RM S I nc np) (hc : c < nc) (hQ : P (bI (hFor S 0 c b)) I) : mm_Ev mm_T0 X (d + 1) 151 0 (mm_ent 151 [.ref 91, .int (nI c), .int b]) [] I (mm_pi P) := by
  show mm_Ev mm_T0 X (d + 1) 151 0 [.ref 91, .int (nI c), .int b] [] I (mm_pi P)
  have tm := tM
  have tr := tR
  refine ev_ald0 k151_0 ?_
  refine ev_ild1 k151_1 ?_
  refine ev_iconst k151_2 ?_
  refine ev_cV3i k151_3 cs_226 (by first | assumption | rfl) (by omega) (Nat.le_of_ble_eq_true rfl) rfl rfl rfl ?_
  refine sm_of (w := 2) (show c < 6 by have := rm.1.2.1; omega) (by omega) ?_
  rw [show I 92 (7 + 4 * c + 2) = S 3 c from (rm.2.1 c hc).2.2.1]
  refine ev_ald0 k151_6 ?_
  refine ev_ild1 k151_7 ?_
  refine ev_iconst k151_8 ?_
  refine ev_cV3i k151_9 cs_226 (by first | assumption | rfl) (by omega) (Nat.le_of_ble_eq_true rfl) rfl rfl rfl ?_
  refine sm_of (w := 3) (show c < 6 by have := rm.1.2.1; omega) (by omega) ?_
  rw [show I 92 (7 + 4 * c + 3) = S 4 c from (rm.2.1 c hc).2.2.2]
  refine ev_ixor k151_12 ?_
  refine ev_ild2 k151_13 ?_
  refine ev_ishr k151_14 ?_
  refine ev_iconst k151_15 ?_
  refine ev_iand k151_16 ?_
  refine ev_iconst k151_17 ?_
  refine ev_icmp_ne k151_18 (fun h18 => ?_) (fun h18 => ?_)
  ·
    refine ev_iconst k151_25 ?_
    refine ev_rz k151_26 rfl (by first | exact bI01 _ | exact Or.inl rfl | exact Or.inr rfl | assumption) ?_
    first | (rw [show hFor S 0 c b = true from decide_eq_true h18] at hQ; exact hQ) | (rw [show hFor S 0 c b = false from decide_eq_false h18] at hQ; exact hQ)
  ·
    refine ev_iconst k151_21 ?_
    refine ev_goto k151_22 ?_
    refine ev_rz k151_26 rfl (by first | exact bI01 _ | exact Or.inl rfl | exact Or.inr rfl | assumption) ?_
    first | (rw [show hFor S 0 c b = true from decide_eq_true h18] at hQ; exact hQ) | (rw [show hFor S 0 c b = false from decide_eq_false h18] at hQ; exact hQ)
/-- Model.plainSays -/
theorem sm_plainSays {X : Nat × (Nat → Int32)} {d : Nat} {I : mm_I} {S : mm_I} {nc np c : Nat} {b : Int32} {P : Int32 → mm_I → Prop} (rm : RM S I nc np) (hc : c < nc) (hQ : P (hCh S 0 c b) I) : mm_Ev mm_T0 X (d + 2) 152 0 (mm_ent 152 [.ref 91, .int (nI c), .int b]) [] I (mm_pi P) := by
  show mm_Ev mm_T0 X (d + 2) 152 0 [.ref 91, .int (nI c), .int b] [] I (mm_pi P)
  have tm := tM
  have tr := tR
  refine ev_ald0 k152_0 ?_
  refine ev_ild1 k152_1 ?_
  refine ev_ild2 k152_2 ?_
  refine ev_cV3i k152_3 cs_227 (by first | assumption | rfl) (by omega) (Nat.le_of_ble_eq_true rfl) rfl rfl rfl ?_
  refine sm_isFor rm hc ?_
  refine ev_ifz_eq k152_6 (fun h6 => ?_) (fun h6 => ?_)
  ·
    refine ev_iconst k152_13 ?_
    refine ev_ri k152_14 rfl ?_
    simp only [hCh, h6, if_true, if_false, Bool.false_eq_true] at hQ
    exact hQ
  ·
    refine ev_iconst k152_9 ?_
    refine ev_goto k152_10 ?_
    refine ev_ri k152_14 rfl ?_
    simp only [hCh, h6, if_true, if_false, Bool.false_eq_true] at hQ
    exact hQ
def kb : Nat → Int32 → Int32 → Int32
  | 0, n, _ => n
  | f + 1, n, v => if v = 0 then n else kb f (n + 1) (v &&& (v - 1))
def kz : Nat → Int32 → Bool
  | 0, v => decide (v = 0)
  | f + 1, v => decide (v = 0) || kz f (v &&& (v - 1))
theorem kb_bc : ∀ k : Fin 256, kb 8 0 (nI k.val) = bc (nI k.val) ∧ kz 8 (nI k.val) = true := by decide +kernel
theorem lm_bits {X : Nat × (Nat → Int32)} {d : Nat} {I : mm_I} {v0 : Int32} {P : Int32 → mm_I → Prop} : ∀ (f : Nat) (n v : Int32), kz f v = true → P (kb f n v) I → mm_Ev mm_T0 X d 141 4 [.int v0, .int n, .int v] [] I (mm_pi P) := by
  intro f
  induction f with
  | zero =>
    intro n v hz hQ
    have h0 : v = 0 := of_decide_eq_true hz
    refine ev_ild2 k141_4 ?_
    refine ev_if_eq k141_5 (fun h5 => ?_) (fun h5 => absurd h0 h5)
    refine ev_ild1 k141_20 ?_
    refine ev_ri k141_21 rfl ?_
    exact hQ
  | succ f ih =>
    intro n v hz hQ
    refine ev_ild2 k141_4 ?_
    refine ev_if_eq k141_5 (fun h5 => ?_) (fun h5 => ?_)
    ·
      refine ev_ild1 k141_20 ?_
      refine ev_ri k141_21 rfl ?_
      simp only [kb, h5, if_true] at hQ
      exact hQ
    ·
      refine ev_inc1 k141_8 rfl ?_
      refine ev_ild2 k141_11 ?_
      refine ev_ild2 k141_12 ?_
      refine ev_iconst k141_13 ?_
      refine ev_isub k141_14 ?_
      refine ev_iand k141_15 ?_
      refine ev_ist2 k141_16 rfl ?_
      refine ev_goto k141_17 ?_
      refine ih _ _ ?_ ?_
      · simpa [kz, h5] using hz
      · simpa [kb, h5] using hQ
/-- Model.bits -/
theorem sm_bits {X : Nat × (Nat → Int32)} {d : Nat} {I : mm_I} {v : Int32} {k : Nat} {P : Int32 → mm_I → Prop} (hv : v = nI k) (hk : k < 256) (hQ : P (bc v) I) : mm_Ev mm_T0 X (d) 141 0 (mm_ent 141 [.int v]) [] I (mm_pi P) := by
  show mm_Ev mm_T0 X (d) 141 0 [.int v, .retAddr 0, .retAddr 0] [] I (mm_pi P)
  subst hv
  refine ev_iconst k141_0 ?_
  refine ev_ist1 k141_1 rfl ?_
  refine ev_ild0 k141_2 ?_
  refine ev_ist2 k141_3 rfl ?_
  obtain ⟨e1, e2⟩ := kb_bc ⟨k, hk⟩
  exact lm_bits 8 0 (nI k) e2 (by rw [e1]; exact hQ)
/-- Model.repairedSays -/
theorem sm_repairedSays {X : Nat × (Nat → Int32)} {d : Nat} {I : mm_I} {S : mm_I} {nc np c : Nat} {b : Int32} {P : Int32 → mm_I → Prop} (rm : RM S I nc np) (sr : sR S nc np) (hc : c < nc) (hQ : P (hRp S 0 c b) I) : mm_Ev mm_T0 X (d + 3) 153 0 (mm_ent 153 [.ref 91, .int (nI c), .int b]) [] I (mm_pi P) := by
  show mm_Ev mm_T0 X (d + 3) 153 0 [.ref 91, .int (nI c), .int b] [] I (mm_pi P)
  have tm := tM
  have tr := tR
  obtain ⟨k, m, v, u, -, -, hv, -, -, -, ev, -⟩ := sr.1 c hc
  refine ev_ald0 k153_0 ?_
  refine ev_ild1 k153_1 ?_
  refine ev_iconst k153_2 ?_
  refine ev_cV3i k153_3 cs_226 (by first | assumption | rfl) (by omega) (Nat.le_of_ble_eq_true rfl) rfl rfl rfl ?_
  refine sm_of (w := 2) (show c < 6 by have := rm.1.2.1; omega) (by omega) ?_
  rw [show I 92 (7 + 4 * c + 2) = S 3 c from (rm.2.1 c hc).2.2.1]
  refine ev_cS1i k153_6 cs_228 rfl rfl rfl ?_
  refine sm_bits ev hv ?_
  refine ev_iconst k153_9 ?_
  refine ev_icmp_lt k153_10 (fun h10 => ?_) (fun h10 => ?_)
  ·
    refine ev_ald0 k153_17 ?_
    refine ev_ild1 k153_18 ?_
    refine ev_ild2 k153_19 ?_
    refine ev_cV3i k153_20 cs_229 (by first | assumption | rfl) (by omega) (Nat.le_of_ble_eq_true rfl) rfl rfl rfl ?_
    refine sm_plainSays rm hc ?_
    refine ev_ri k153_23 rfl ?_
    simp only [hRp, show (0 : Nat) + 3 = 3 from rfl, h10, if_true, if_false] at hQ
    exact hQ
  ·
    refine ev_iconst k153_13 ?_
    refine ev_goto k153_14 ?_
    refine ev_ri k153_23 rfl ?_
    simp only [hRp, show (0 : Nat) + 3 = 3 from rfl, h10, if_true, if_false] at hQ
    exact hQ
