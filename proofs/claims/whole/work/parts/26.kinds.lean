/-! Chairs' kinds and what they say; hb is the house -/
def hFor (I : mm_I) (hb c : Nat) (b : Int32) : Bool := iB (I (hb + 3) c ^^^ I (hb + 4) c) b
def hCh (I : mm_I) (hb c : Nat) (b : Int32) : Int32 := if hFor I hb c b then 1 else -1
def hNx (I : mm_I) (hb c : Nat) : Nat := if nI c + 1 < I hb 1 then c + 1 else 0
def hRp (I : mm_I) (hb c : Nat) (b : Int32) : Int32 := if bc (I (hb + 3) c) < 4 then hCh I hb c b else 1
def hGl (I : mm_I) (hb c : Nat) (b t : Int32) : Int32 := hCh I hb (if iB t (nI (hNx I hb c)) then hNx I hb c else c) b
def hOp (I : mm_I) (hb k c : Nat) (b t : Int32) : Int32 := match k with
  | 0 => hCh I hb c b
  | 1 => if b = I (hb + 2) c then 0 else hCh I hb c b
  | 2 => hGl I hb c b t
  | 3 => hRp I hb c b
  | 4 => 0
  | 5 => hGl I hb c b t
  | _ => -(hRp I hb c b)
def hHf (k : Nat) (g m : Int32) : Int32 := if k = 5 then g + m / 3 else if k = 6 then g * 2 else g
/-- House.isFor -/
theorem sp_isFor {X : Nat × (Nat → Int32)} {d : Nat} {I : mm_I} {hb c : Nat} {b : Int32} {P : Int32 → mm_I → Prop} (hh : hH hb) (hc : c < 6) (hQ : P (bI (hFor I hb c b)) I) : mm_Ev mm_T0 X (d + 1) 27 0 (mm_ent 27 [.ref hb, .int (nI c), .int b]) [] I (mm_pi P) := by
  show mm_Ev mm_T0 X (d + 1) 27 0 [.ref hb, .int (nI c), .int b] [] I (mm_pi P)
  have t0 := tH0 hh
  have t3 := tH3 hh
  have t4 := tH4 hh
  have hbl := hH_lt hh
  refine ev_ald0 k27_0 ?_
  refine ev_getr k27_1 (by first | assumption | rfl) rfl rfl rfl ?_
  refine ev_ild1 k27_4 ?_
  refine ev_ial (j := c) k27_5 (by first | assumption | rfl) (by omega) (nI_clamp (by omega)) (vp_in_nI hc (by omega)) ?_
  refine ev_ald0 k27_6 ?_
  refine ev_getr k27_7 (by first | assumption | rfl) rfl rfl rfl ?_
  refine ev_ild1 k27_10 ?_
  refine ev_ial (j := c) k27_11 (by first | assumption | rfl) (by omega) (nI_clamp (by omega)) (vp_in_nI hc (by omega)) ?_
  refine ev_ixor k27_12 ?_
  refine ev_ild2 k27_13 ?_
  refine ev_cS2i k27_14 cs_108 rfl rfl rfl ?_
  refine sp_isIn ?_
  refine ev_rz k27_17 rfl (by first | exact bI01 _ | exact Or.inl rfl | exact Or.inr rfl | assumption) ?_
  exact hQ
/-- House.nextTo -/
theorem sp_nextTo {X : Nat × (Nat → Int32)} {d : Nat} {I : mm_I} {hb c : Nat} {P : Int32 → mm_I → Prop} (hh : hH hb) (hc : c < 6) (hQ : P (nI (hNx I hb c)) I) : mm_Ev mm_T0 X (d) 26 0 (mm_ent 26 [.ref hb, .int (nI c)]) [] I (mm_pi P) := by
  show mm_Ev mm_T0 X (d) 26 0 [.ref hb, .int (nI c)] [] I (mm_pi P)
  have t0 := tH0 hh
  have hbl := hH_lt hh
  refine ev_ild1 k26_0 ?_
  refine ev_iconst k26_1 ?_
  refine ev_iadd k26_2 ?_
  refine ev_ald0 k26_3 ?_
  refine ev_gf (j := 1) k26_4 (by first | assumption | rfl) rfl rfl rfl rfl ?_
  refine ev_jcmp_ge k26_7 (fun h7 => ?_) (fun h7 => ?_)
  ·
    refine ev_iconst k26_16 ?_
    refine ev_ri k26_17 rfl ?_
    first | (simp only [hNx, if_pos h7, ← nI_1] at hQ; exact hQ) | (simp only [hNx, if_neg h7] at hQ; exact hQ)
  ·
    refine ev_ild1 k26_10 ?_
    refine ev_iconst k26_11 ?_
    refine ev_iadd k26_12 ?_
    refine ev_goto k26_13 ?_
    refine ev_ri k26_17 rfl ?_
    first | (simp only [hNx, if_pos h7, ← nI_1] at hQ; exact hQ) | (simp only [hNx, if_neg h7] at hQ; exact hQ)
/-- Chair.opinion -/
theorem sp_ChairOp {X : Nat × (Nat → Int32)} {d : Nat} {I : mm_I} {q hb c : Nat} {b t : Int32} {P : Int32 → mm_I → Prop} (hh : hH hb) (hc : c < 6) (hQ : P (hCh I hb c b) I) : mm_Ev mm_T0 X (d + 2) 5 0 (mm_ent 5 [.ref q, .ref hb, .int (nI c), .int b, .int t]) [] I (mm_pi P) := by
  show mm_Ev mm_T0 X (d + 2) 5 0 [.ref q, .ref hb, .int (nI c), .int b, .int t] [] I (mm_pi P)
  have t0 := tH0 hh
  have hbl := hH_lt hh
  refine ev_ald1 k5_0 ?_
  refine ev_ild2 k5_1 ?_
  refine ev_ild3 k5_2 ?_
  refine ev_cV3i k5_3 cs_86 (by first | assumption | rfl) (by omega) (Nat.le_of_ble_eq_true rfl) rfl rfl rfl ?_
  refine sp_isFor hh hc ?_
  refine ev_ifz_eq k5_6 (fun h6 => ?_) (fun h6 => ?_)
  ·
    refine ev_iconst k5_13 ?_
    refine ev_ri k5_14 rfl ?_
    simp only [hCh, h6, if_true, if_false, Bool.false_eq_true] at hQ
    exact hQ
  ·
    refine ev_iconst k5_9 ?_
    refine ev_goto k5_10 ?_
    refine ev_ri k5_14 rfl ?_
    simp only [hCh, h6, if_true, if_false, Bool.false_eq_true] at hQ
    exact hQ
/-- Wet.opinion -/
theorem sp_WetOp {X : Nat × (Nat → Int32)} {d : Nat} {I : mm_I} {q hb c : Nat} {cq : mm_C} {b t : Int32} {P : Int32 → mm_I → Prop} (hq : mm_T0[q]? = some cq) (hq13 : cq.1 < 13) (hql : q < 1000) (hh : hH hb) (hc : c < 6) (hQ : P (if b = I (hb + 2) c then 0 else hCh I hb c b) I) : mm_Ev mm_T0 X (d + 3) 73 0 (mm_ent 73 [.ref q, .ref hb, .int (nI c), .int b, .int t]) [] I (mm_pi P) := by
  show mm_Ev mm_T0 X (d + 3) 73 0 [.ref q, .ref hb, .int (nI c), .int b, .int t] [] I (mm_pi P)
  have t0 := tH0 hh
  have t2 := tH2 hh
  have hbl := hH_lt hh
  refine ev_ild3 k73_0 ?_
  refine ev_ald1 k73_1 ?_
  refine ev_getr k73_2 (by first | assumption | rfl) rfl rfl rfl ?_
  refine ev_ild2 k73_5 ?_
  refine ev_ial (j := c) k73_6 (by first | assumption | rfl) (by omega) (nI_clamp (by omega)) (vp_in_nI hc (by omega)) ?_
  refine ev_icmp_ne k73_7 (fun h7 => ?_) (fun h7 => ?_)
  ·
    refine ev_ald0 k73_14 ?_
    refine ev_ald1 k73_15 ?_
    refine ev_ild2 k73_16 ?_
    refine ev_ild3 k73_17 ?_
    refine ev_ild4 k73_18 ?_
    refine ev_cP5i k73_20 cs_159 (by first | assumption | rfl) (by omega) (by assumption) rfl rfl rfl ?_
    refine sp_ChairOp hh hc ?_
    refine ev_ri k73_23 rfl ?_
    simp only [h7, if_true, if_false] at hQ
    exact hQ
  ·
    refine ev_iconst k73_10 ?_
    refine ev_goto k73_11 ?_
    refine ev_ri k73_23 rfl ?_
    simp only [h7, if_true, if_false] at hQ
    exact hQ
/-- Glued.opinion -/
theorem sp_GluedOp {X : Nat × (Nat → Int32)} {d : Nat} {I : mm_I} {q hb c : Nat} {cq : mm_C} {b t : Int32} {P : Int32 → mm_I → Prop} (hq : mm_T0[q]? = some cq) (hq13 : cq.1 < 13) (hql : q < 1000) (hh : hH hb) (hc : c < 6) (hn : hNx I hb c < 6) (hQ : P (hGl I hb c b t) I) : mm_Ev mm_T0 X (d + 3) 17 0 (mm_ent 17 [.ref q, .ref hb, .int (nI c), .int b, .int t]) [] I (mm_pi P) := by
  show mm_Ev mm_T0 X (d + 3) 17 0 [.ref q, .ref hb, .int (nI c), .int b, .int t, .retAddr 0] [] I (mm_pi P)
  have t0 := tH0 hh
  have hbl := hH_lt hh
  refine ev_ald1 k17_0 ?_
  refine ev_ild2 k17_1 ?_
  refine ev_cV2i k17_2 cs_99 (by first | assumption | rfl) (by omega) (by first | assumption | exact Nat.le_of_ble_eq_true rfl) rfl rfl rfl ?_
  refine sp_nextTo hh hc ?_
  refine ev_ist5 k17_5 rfl ?_
  refine ev_ald0 k17_7 ?_
  refine ev_ald1 k17_8 ?_
  refine ev_ild4 k17_9 ?_
  refine ev_ild5 k17_11 ?_
  refine ev_cS2i k17_13 cs_100 rfl rfl rfl ?_
  refine sp_isIn ?_
  refine ev_ifz_eq k17_16 (fun h16 => ?_) (fun h16 => ?_)
  ·
    refine ev_ild2 k17_24 ?_
    refine ev_ild3 k17_25 ?_
    refine ev_ild4 k17_26 ?_
    refine ev_cP5i k17_28 cs_101 (by first | assumption | rfl) (by omega) (by first | assumption | exact Nat.le_of_ble_eq_true rfl) rfl rfl rfl ?_
    refine sp_ChairOp hh (by assumption) ?_
    refine ev_ri k17_31 rfl ?_
    simp only [hGl, h16, if_true, if_false, Bool.false_eq_true] at hQ
    exact hQ
  ·
    refine ev_ild5 k17_19 ?_
    refine ev_goto k17_21 ?_
    refine ev_ild3 k17_25 ?_
    refine ev_ild4 k17_26 ?_
    refine ev_cP5i k17_28 cs_101 (by first | assumption | rfl) (by omega) (by first | assumption | exact Nat.le_of_ble_eq_true rfl) rfl rfl rfl ?_
    refine sp_ChairOp hh (by assumption) ?_
    refine ev_ri k17_31 rfl ?_
    simp only [hGl, h16, if_true, if_false, Bool.false_eq_true] at hQ
    exact hQ
/-- Repaired.opinion -/
theorem sp_RepairedOp {X : Nat × (Nat → Int32)} {d : Nat} {I : mm_I} {q hb c : Nat} {cq : mm_C} {b t : Int32} {P : Int32 → mm_I → Prop} (hq : mm_T0[q]? = some cq) (hq13 : cq.1 < 13) (hql : q < 1000) (hh : hH hb) (hc : c < 6) (hQ : P (hRp I hb c b) I) : mm_Ev mm_T0 X (d + 3) 50 0 (mm_ent 50 [.ref q, .ref hb, .int (nI c), .int b, .int t]) [] I (mm_pi P) := by
  show mm_Ev mm_T0 X (d + 3) 50 0 [.ref q, .ref hb, .int (nI c), .int b, .int t, .retAddr 0] [] I (mm_pi P)
  have t0 := tH0 hh
  have t3 := tH3 hh
  have hbl := hH_lt hh
  refine ev_ald1 k50_0 ?_
  refine ev_getr k50_1 (by first | assumption | rfl) rfl rfl rfl ?_
  refine ev_ild2 k50_4 ?_
  refine ev_ial (j := c) k50_5 (by first | assumption | rfl) (by omega) (nI_clamp (by omega)) (vp_in_nI hc (by omega)) ?_
  refine ev_cS1i k50_6 cs_139 rfl rfl rfl ?_
  refine sp_bitCount ?_
  refine ev_iconst k50_9 ?_
  refine ev_icmp_lt k50_10 (fun h10 => ?_) (fun h10 => ?_)
  ·
    refine ev_iconst k50_17 ?_
    refine ev_ist5 k50_18 rfl ?_
    refine ev_ild5 k50_20 ?_
    refine ev_if_eq k50_22 (fun h22 => ?_) (fun h22 => ?_)
    ·
      refine ev_ald0 k50_29 ?_
      refine ev_ald1 k50_30 ?_
      refine ev_ild2 k50_31 ?_
      refine ev_ild3 k50_32 ?_
      refine ev_ild4 k50_33 ?_
      refine ev_cP5i k50_35 cs_140 (by first | assumption | rfl) (by omega) (by assumption) rfl rfl rfl ?_
      refine sp_ChairOp hh hc ?_
      refine ev_ri k50_38 rfl ?_
      first | (exact absurd rfl h22) | (exact absurd h22 (by decide)) | (simp only [hRp, h10, if_true, if_false] at hQ; exact hQ)
    ·
      refine ev_iconst k50_25 ?_
      refine ev_goto k50_26 ?_
      refine ev_ri k50_38 rfl ?_
      first | (exact absurd rfl h22) | (exact absurd h22 (by decide)) | (simp only [hRp, h10, if_true, if_false] at hQ; exact hQ)
  ·
    refine ev_iconst k50_13 ?_
    refine ev_goto k50_14 ?_
    refine ev_ist5 k50_18 rfl ?_
    refine ev_ild5 k50_20 ?_
    refine ev_if_eq k50_22 (fun h22 => ?_) (fun h22 => ?_)
    ·
      refine ev_ald0 k50_29 ?_
      refine ev_ald1 k50_30 ?_
      refine ev_ild2 k50_31 ?_
      refine ev_ild3 k50_32 ?_
      refine ev_ild4 k50_33 ?_
      refine ev_cP5i k50_35 cs_140 (by first | assumption | rfl) (by omega) (by assumption) rfl rfl rfl ?_
      refine sp_ChairOp hh hc ?_
      refine ev_ri k50_38 rfl ?_
      first | (exact absurd rfl h22) | (exact absurd h22 (by decide)) | (simp only [hRp, h10, if_true, if_false] at hQ; exact hQ)
    ·
      refine ev_iconst k50_25 ?_
      refine ev_goto k50_26 ?_
      refine ev_ri k50_38 rfl ?_
      first | (exact absurd rfl h22) | (exact absurd h22 (by decide)) | (simp only [hRp, h10, if_true, if_false] at hQ; exact hQ)
/-- Soaked.opinion -/
theorem sp_SoakedOp {X : Nat × (Nat → Int32)} {d : Nat} {I : mm_I} {q hb : Nat} {c b t : Int32} {P : Int32 → mm_I → Prop} (hQ : P 0 I) : mm_Ev mm_T0 X (d) 65 0 (mm_ent 65 [.ref q, .ref hb, .int c, .int b, .int t]) [] I (mm_pi P) := by
  show mm_Ev mm_T0 X (d) 65 0 [.ref q, .ref hb, .int c, .int b, .int t] [] I (mm_pi P)
  refine ev_iconst k65_0 ?_
  refine ev_ri k65_1 rfl ?_
  exact hQ
/-- Crown.opinion -/
theorem sp_CrownOp {X : Nat × (Nat → Int32)} {d : Nat} {I : mm_I} {q hb c : Nat} {cq : mm_C} {b t : Int32} {P : Int32 → mm_I → Prop} (hq : mm_T0[q]? = some cq) (hq13 : cq.1 < 13) (hql : q < 1000) (hh : hH hb) (hc : c < 6) (hQ : P (-(hRp I hb c b)) I) : mm_Ev mm_T0 X (d + 4) 12 0 (mm_ent 12 [.ref q, .ref hb, .int (nI c), .int b, .int t]) [] I (mm_pi P) := by
  show mm_Ev mm_T0 X (d + 4) 12 0 [.ref q, .ref hb, .int (nI c), .int b, .int t] [] I (mm_pi P)
  refine ev_ald0 k12_0 ?_
  refine ev_ald1 k12_1 ?_
  refine ev_ild2 k12_2 ?_
  refine ev_ild3 k12_3 ?_
  refine ev_ild4 k12_4 ?_
  refine ev_cP5i k12_6 cs_92 (by first | assumption | rfl) (by omega) (by assumption) rfl rfl rfl ?_
  refine sp_RepairedOp hq hq13 hql hh hc ?_
  refine ev_ineg k12_9 ?_
  refine ev_ri k12_10 rfl ?_
  exact hQ
/-- Chair.heft -/
theorem sp_ChairHf {X : Nat × (Nat → Int32)} {d : Nat} {I : mm_I} {q : Nat} {g m : Int32} {P : Int32 → mm_I → Prop} (hQ : P g I) : mm_Ev mm_T0 X (d) 6 0 (mm_ent 6 [.ref q, .int g, .int m]) [] I (mm_pi P) := by
  show mm_Ev mm_T0 X (d) 6 0 [.ref q, .int g, .int m] [] I (mm_pi P)
  refine ev_ild1 k6_0 ?_
  refine ev_ri k6_1 rfl ?_
  exact hQ
/-- Bench.heft -/
theorem sp_BenchHf {X : Nat × (Nat → Int32)} {d : Nat} {I : mm_I} {q : Nat} {cq : mm_C} {g m : Int32} {P : Int32 → mm_I → Prop} (hq : mm_T0[q]? = some cq) (hq13 : cq.1 < 13) (hql : q < 1000) (hQ : P (g + m / 3) I) : mm_Ev mm_T0 X (d + 1) 2 0 (mm_ent 2 [.ref q, .int g, .int m]) [] I (mm_pi P) := by
  show mm_Ev mm_T0 X (d + 1) 2 0 [.ref q, .int g, .int m] [] I (mm_pi P)
  refine ev_ald0 k2_0 ?_
  refine ev_ild1 k2_1 ?_
  refine ev_ild2 k2_2 ?_
  refine ev_cP3i k2_3 cs_83 (by first | assumption | rfl) (by omega) (by assumption) rfl rfl rfl ?_
  refine sp_ChairHf ?_
  refine ev_ild2 k2_6 ?_
  refine ev_iconst k2_7 ?_
  refine ev_idiv k2_8 (by decide) ?_
  refine ev_iadd k2_9 ?_
  refine ev_ri k2_10 rfl ?_
  exact hQ
/-- Crown.heft -/
theorem sp_CrownHf {X : Nat × (Nat → Int32)} {d : Nat} {I : mm_I} {q : Nat} {cq : mm_C} {g m : Int32} {P : Int32 → mm_I → Prop} (hq : mm_T0[q]? = some cq) (hq13 : cq.1 < 13) (hql : q < 1000) (hQ : P (g * 2) I) : mm_Ev mm_T0 X (d + 1) 13 0 (mm_ent 13 [.ref q, .int g, .int m]) [] I (mm_pi P) := by
  show mm_Ev mm_T0 X (d + 1) 13 0 [.ref q, .int g, .int m] [] I (mm_pi P)
  refine ev_ald0 k13_0 ?_
  refine ev_ild1 k13_1 ?_
  refine ev_ild2 k13_2 ?_
  refine ev_cP3i k13_3 cs_93 (by first | assumption | rfl) (by omega) (by assumption) rfl rfl rfl ?_
  refine sp_ChairHf ?_
  refine ev_iconst k13_6 ?_
  refine ev_imul k13_7 ?_
  refine ev_ri k13_8 rfl ?_
  exact hQ
/-- House.kindOf -/
theorem sp_kindOf {X : Nat × (Nat → Int32)} {d : Nat} {I : mm_I} {hb c k : Nat} {P : Nat → mm_I → Prop} (hh : hH hb) (hc : c < 6) (hk : I (hb + 1) c = nI k) (hk7 : k < 7) (hQ : P (4 + k) I) : mm_Ev mm_T0 X (d) 23 0 (mm_ent 23 [.ref hb, .int (nI c)]) [] I (mm_pr P) := by
  show mm_Ev mm_T0 X (d) 23 0 [.ref hb, .int (nI c)] [] I (mm_pr P)
  have t0 := tH0 hh
  have t1 := tH1 hh
  have hbl := hH_lt hh
  refine ev_ald0 k23_0 ?_
  refine ev_getr k23_1 (by first | assumption | rfl) rfl rfl rfl ?_
  refine ev_ald0 k23_4 ?_
  refine ev_getr k23_5 (by first | assumption | rfl) rfl rfl rfl ?_
  refine ev_ild1 k23_8 ?_
  refine ev_ial (j := c) k23_9 (by first | assumption | rfl) (by omega) (nI_clamp (by omega)) (vp_in_nI hc (by omega)) ?_
  refine ev_aaload k23_10 (by first | assumption | rfl) (by decide) (by rw [hk]; exact vp_in_nI hk7 (by decide)) (show [Value.ref 4, .ref 5, .ref 6, .ref 7, .ref 8, .ref 9, .ref 10][(I (hb + 1) c).toNatClampNeg]? = some (.ref (4 + k)) by rw [hk, nI_clamp (by omega)]; rcases (show k = 0 ∨ k = 1 ∨ k = 2 ∨ k = 3 ∨ k = 4 ∨ k = 5 ∨ k = 6 by omega) with rfl | rfl | rfl | rfl | rfl | rfl | rfl <;> rfl) ?_
  refine ev_rr k23_11 rfl ?_
  exact hQ
theorem ev_opV {X : Nat × (Nat → Int32)} {d mid pc nx n : Nat} {vv : Value} {ls rest : List Value} {I : mm_I} {Q : Option Value → mm_I → Prop} {hb k c : Nat} {b t : Int32} (h : mm_at mid pc = some (.invokevirtual n, nx, 114, vv)) (hh : hH hb) (hc : c < 6) (hn : hNx I hb c < 6) (hk7 : k < 7) (hw : decide ((rest.map Value.category).sum ≤ 8) = true) (kk : mm_Ev mm_T0 X (d + 5) mid nx ls (.int (hOp I hb k c b t) :: rest) I Q) : mm_Ev mm_T0 X (d + 5) mid pc ls (.int t :: .int b :: .int (nI c) :: .ref hb :: .ref (4 + k) :: rest) I Q := by
  rcases (show k = 0 ∨ k = 1 ∨ k = 2 ∨ k = 3 ∨ k = 4 ∨ k = 5 ∨ k = 6 by omega) with rfl | rfl | rfl | rfl | rfl | rfl | rfl
  · exact ev_cV5i h cs_114 rfl (by decide) (Nat.le_of_ble_eq_true rfl) rfl hw rfl (sp_ChairOp hh hc kk)
  · exact ev_cV5i h cs_114 rfl (by decide) (Nat.le_of_ble_eq_true rfl) rfl hw rfl (sp_WetOp rfl (Nat.le_of_ble_eq_true rfl) (by decide) hh hc kk)
  · exact ev_cV5i h cs_114 rfl (by decide) (Nat.le_of_ble_eq_true rfl) rfl hw rfl (sp_GluedOp rfl (Nat.le_of_ble_eq_true rfl) (by decide) hh hc hn kk)
  · exact ev_cV5i h cs_114 rfl (by decide) (Nat.le_of_ble_eq_true rfl) rfl hw rfl (sp_RepairedOp rfl (Nat.le_of_ble_eq_true rfl) (by decide) hh hc kk)
  · exact ev_cV5i h cs_114 rfl (by decide) (Nat.le_of_ble_eq_true rfl) rfl hw rfl (sp_SoakedOp kk)
  · exact ev_cV5i h cs_114 rfl (by decide) (Nat.le_of_ble_eq_true rfl) rfl hw rfl (sp_GluedOp rfl (Nat.le_of_ble_eq_true rfl) (by decide) hh hc hn kk)
  · exact ev_cV5i h cs_114 rfl (by decide) (Nat.le_of_ble_eq_true rfl) rfl hw rfl (sp_CrownOp rfl (Nat.le_of_ble_eq_true rfl) (by decide) hh hc kk)
theorem ev_hfV {X : Nat × (Nat → Int32)} {d mid pc nx n : Nat} {vv : Value} {ls rest : List Value} {I : mm_I} {Q : Option Value → mm_I → Prop} {k : Nat} {g m : Int32} (h : mm_at mid pc = some (.invokevirtual n, nx, 112, vv)) (hk7 : k < 7) (hw : decide ((rest.map Value.category).sum ≤ 8) = true) (kk : mm_Ev mm_T0 X (d + 2) mid nx ls (.int (hHf k g m) :: rest) I Q) : mm_Ev mm_T0 X (d + 2) mid pc ls (.int m :: .int g :: .ref (4 + k) :: rest) I Q := by
  rcases (show k = 0 ∨ k = 1 ∨ k = 2 ∨ k = 3 ∨ k = 4 ∨ k = 5 ∨ k = 6 by omega) with rfl | rfl | rfl | rfl | rfl | rfl | rfl
  · exact ev_cV3i h cs_112 rfl (by decide) (Nat.le_of_ble_eq_true rfl) rfl hw rfl (sp_ChairHf kk)
  · exact ev_cV3i h cs_112 rfl (by decide) (Nat.le_of_ble_eq_true rfl) rfl hw rfl (sp_ChairHf kk)
  · exact ev_cV3i h cs_112 rfl (by decide) (Nat.le_of_ble_eq_true rfl) rfl hw rfl (sp_ChairHf kk)
  · exact ev_cV3i h cs_112 rfl (by decide) (Nat.le_of_ble_eq_true rfl) rfl hw rfl (sp_ChairHf kk)
  · exact ev_cV3i h cs_112 rfl (by decide) (Nat.le_of_ble_eq_true rfl) rfl hw rfl (sp_ChairHf kk)
  · exact ev_cV3i h cs_112 rfl (by decide) (Nat.le_of_ble_eq_true rfl) rfl hw rfl (sp_BenchHf rfl (Nat.le_of_ble_eq_true rfl) (by decide) kk)
  · exact ev_cV3i h cs_112 rfl (by decide) (Nat.le_of_ble_eq_true rfl) rfl hw rfl (sp_CrownHf rfl (Nat.le_of_ble_eq_true rfl) (by decide) kk)
