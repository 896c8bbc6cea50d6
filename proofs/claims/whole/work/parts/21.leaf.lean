/-- CV.isWithin -/
theorem sp_isWithin {T : List mm_C} {X : Nat × (Nat → Int32)} {d : Nat} {I : mm_I} {v lo hi : Int32} {P : Int32 → mm_I → Prop} (hQ : P (bI (wB lo hi v)) I) : mm_Ev T X (d) 117 0 (mm_ent 117 [.int v, .int lo, .int hi]) [] I (mm_pi P) := by
  show mm_Ev T X (d) 117 0 [.int v, .int lo, .int hi] [] I (mm_pi P)
  refine ev_ild0 k117_0 ?_
  refine ev_ild1 k117_1 ?_
  refine ev_icmp_lt k117_2 (fun h2 => ?_) (fun h2 => ?_)
  ·
    refine ev_iconst k117_14 ?_
    refine ev_rz k117_15 rfl (by first | exact bI01 _ | exact Or.inl rfl | exact Or.inr rfl | assumption) ?_
    first | (rw [wB_lo (by assumption)] at hQ; exact hQ) | (rw [wB_hi (by assumption)] at hQ; exact hQ) | (rw [wB_ok (by assumption) (by assumption)] at hQ; exact hQ)
  ·
    refine ev_ild0 k117_5 ?_
    refine ev_ild2 k117_6 ?_
    refine ev_icmp_gt k117_7 (fun h7 => ?_) (fun h7 => ?_)
    ·
      refine ev_iconst k117_14 ?_
      refine ev_rz k117_15 rfl (by first | exact bI01 _ | exact Or.inl rfl | exact Or.inr rfl | assumption) ?_
      first | (rw [wB_lo (by assumption)] at hQ; exact hQ) | (rw [wB_hi (by assumption)] at hQ; exact hQ) | (rw [wB_ok (by assumption) (by assumption)] at hQ; exact hQ)
    ·
      refine ev_iconst k117_10 ?_
      refine ev_goto k117_11 ?_
      refine ev_rz k117_15 rfl (by first | exact bI01 _ | exact Or.inl rfl | exact Or.inr rfl | assumption) ?_
      first | (rw [wB_lo (by assumption)] at hQ; exact hQ) | (rw [wB_hi (by assumption)] at hQ; exact hQ) | (rw [wB_ok (by assumption) (by assumption)] at hQ; exact hQ)
/-- CV.isBill -/
theorem sp_isBill {T : List mm_C} {X : Nat × (Nat → Int32)} {d : Nat} {I : mm_I} {v : Int32} {P : Int32 → mm_I → Prop} (hQ : P (bI (wB 0 7 v)) I) : mm_Ev T X (d + 1) 118 0 (mm_ent 118 [.int v]) [] I (mm_pi P) := by
  show mm_Ev T X (d + 1) 118 0 [.int v] [] I (mm_pi P)
  refine ev_ild0 k118_0 ?_
  refine ev_iconst k118_1 ?_
  refine ev_bipush k118_2 ?_
  refine ev_cS3i k118_4 cs_179 rfl rfl rfl ?_
  refine sp_isWithin ?_
  refine ev_rz k118_7 rfl (by first | exact bI01 _ | exact Or.inl rfl | exact Or.inr rfl | assumption) ?_
  exact hQ
/-- CV.isSetOfBills -/
theorem sp_isSetOfBills {T : List mm_C} {X : Nat × (Nat → Int32)} {d : Nat} {I : mm_I} {v : Int32} {P : Int32 → mm_I → Prop} (hQ : P (bI (wB 0 255 v)) I) : mm_Ev T X (d + 1) 119 0 (mm_ent 119 [.int v]) [] I (mm_pi P) := by
  show mm_Ev T X (d + 1) 119 0 [.int v] [] I (mm_pi P)
  refine ev_ild0 k119_0 ?_
  refine ev_iconst k119_1 ?_
  refine ev_sipush k119_2 ?_
  refine ev_cS3i k119_5 cs_179 rfl rfl rfl ?_
  refine sp_isWithin ?_
  refine ev_rz k119_8 rfl (by first | exact bI01 _ | exact Or.inl rfl | exact Or.inr rfl | assumption) ?_
  exact hQ
/-- CV.isSpeed -/
theorem sp_isSpeed {T : List mm_C} {X : Nat × (Nat → Int32)} {d : Nat} {I : mm_I} {v : Int32} {P : Int32 → mm_I → Prop} (hQ : P (bI (wB 0 99 v)) I) : mm_Ev T X (d + 1) 120 0 (mm_ent 120 [.int v]) [] I (mm_pi P) := by
  show mm_Ev T X (d + 1) 120 0 [.int v] [] I (mm_pi P)
  refine ev_ild0 k120_0 ?_
  refine ev_iconst k120_1 ?_
  refine ev_bipush k120_2 ?_
  refine ev_cS3i k120_4 cs_179 rfl rfl rfl ?_
  refine sp_isWithin ?_
  refine ev_rz k120_7 rfl (by first | exact bI01 _ | exact Or.inl rfl | exact Or.inr rfl | assumption) ?_
  exact hQ
/-- CV.isKindAndNumber -/
theorem sp_isKindAndNumber {T : List mm_C} {X : Nat × (Nat → Int32)} {d : Nat} {I : mm_I} {v : Int32} {P : Int32 → mm_I → Prop} (hQ : P (bI (wB 0 69 v)) I) : mm_Ev T X (d + 1) 121 0 (mm_ent 121 [.int v]) [] I (mm_pi P) := by
  show mm_Ev T X (d + 1) 121 0 [.int v] [] I (mm_pi P)
  refine ev_ild0 k121_0 ?_
  refine ev_iconst k121_1 ?_
  refine ev_bipush k121_2 ?_
  refine ev_cS3i k121_4 cs_179 rfl rfl rfl ?_
  refine sp_isWithin ?_
  refine ev_rz k121_7 rfl (by first | exact bI01 _ | exact Or.inl rfl | exact Or.inr rfl | assumption) ?_
  exact hQ
/-- CV.isUse -/
theorem sp_isUse {T : List mm_C} {X : Nat × (Nat → Int32)} {d : Nat} {I : mm_I} {v : Int32} {P : Int32 → mm_I → Prop} (hQ : P (bI (wB 0 1 v)) I) : mm_Ev T X (d + 1) 122 0 (mm_ent 122 [.int v]) [] I (mm_pi P) := by
  show mm_Ev T X (d + 1) 122 0 [.int v] [] I (mm_pi P)
  refine ev_ild0 k122_0 ?_
  refine ev_iconst k122_1 ?_
  refine ev_iconst k122_2 ?_
  refine ev_cS3i k122_3 cs_179 rfl rfl rfl ?_
  refine sp_isWithin ?_
  refine ev_rz k122_6 rfl (by first | exact bI01 _ | exact Or.inl rfl | exact Or.inr rfl | assumption) ?_
  exact hQ
/-- CV.isSheet -/
theorem sp_isSheet {T : List mm_C} {X : Nat × (Nat → Int32)} {d : Nat} {I : mm_I} {v : Int32} {P : Int32 → mm_I → Prop} (hQ : P (bI (wB 0 3 v)) I) : mm_Ev T X (d + 1) 123 0 (mm_ent 123 [.int v]) [] I (mm_pi P) := by
  show mm_Ev T X (d + 1) 123 0 [.int v] [] I (mm_pi P)
  refine ev_ild0 k123_0 ?_
  refine ev_iconst k123_1 ?_
  refine ev_iconst k123_2 ?_
  refine ev_cS3i k123_3 cs_179 rfl rfl rfl ?_
  refine sp_isWithin ?_
  refine ev_rz k123_6 rfl (by first | exact bI01 _ | exact Or.inl rfl | exact Or.inr rfl | assumption) ?_
  exact hQ
/-- CV.isIn -/
theorem sp_isIn {T : List mm_C} {X : Nat × (Nat → Int32)} {d : Nat} {I : mm_I} {v i : Int32} {P : Int32 → mm_I → Prop} (hQ : P (bI (iB v i)) I) : mm_Ev T X (d) 125 0 (mm_ent 125 [.int v, .int i]) [] I (mm_pi P) := by
  show mm_Ev T X (d) 125 0 [.int v, .int i] [] I (mm_pi P)
  refine ev_ild0 k125_0 ?_
  refine ev_ild1 k125_1 ?_
  refine ev_ishr k125_2 ?_
  refine ev_iconst k125_3 ?_
  refine ev_iand k125_4 ?_
  refine ev_iconst k125_5 ?_
  refine ev_icmp_ne k125_6 (fun h6 => ?_) (fun h6 => ?_)
  ·
    refine ev_iconst k125_13 ?_
    refine ev_rz k125_14 rfl (by first | exact bI01 _ | exact Or.inl rfl | exact Or.inr rfl | assumption) ?_
    first | (have e : iB v i = true := by simp_all [iB]) | (have e : iB v i = false := by simp_all [iB])
    rw [e] at hQ
    exact hQ
  ·
    refine ev_iconst k125_9 ?_
    refine ev_goto k125_10 ?_
    refine ev_rz k125_14 rfl (by first | exact bI01 _ | exact Or.inl rfl | exact Or.inr rfl | assumption) ?_
    first | (have e : iB v i = true := by simp_all [iB]) | (have e : iB v i = false := by simp_all [iB])
    rw [e] at hQ
    exact hQ
/-- Model.in -/
theorem sp_in {T : List mm_C} {X : Nat × (Nat → Int32)} {d : Nat} {I : mm_I} {v lo hi : Int32} {P : Int32 → mm_I → Prop} (hQ : P (bI (wB lo hi v)) I) : mm_Ev T X (d) 138 0 (mm_ent 138 [.int v, .int lo, .int hi]) [] I (mm_pi P) := by
  show mm_Ev T X (d) 138 0 [.int v, .int lo, .int hi] [] I (mm_pi P)
  refine ev_ild0 k138_0 ?_
  refine ev_ild1 k138_1 ?_
  refine ev_icmp_lt k138_2 (fun h2 => ?_) (fun h2 => ?_)
  ·
    refine ev_iconst k138_14 ?_
    refine ev_rz k138_15 rfl (by first | exact bI01 _ | exact Or.inl rfl | exact Or.inr rfl | assumption) ?_
    first | (rw [wB_lo (by assumption)] at hQ; exact hQ) | (rw [wB_hi (by assumption)] at hQ; exact hQ) | (rw [wB_ok (by assumption) (by assumption)] at hQ; exact hQ)
  ·
    refine ev_ild0 k138_5 ?_
    refine ev_ild2 k138_6 ?_
    refine ev_icmp_gt k138_7 (fun h7 => ?_) (fun h7 => ?_)
    ·
      refine ev_iconst k138_14 ?_
      refine ev_rz k138_15 rfl (by first | exact bI01 _ | exact Or.inl rfl | exact Or.inr rfl | assumption) ?_
      first | (rw [wB_lo (by assumption)] at hQ; exact hQ) | (rw [wB_hi (by assumption)] at hQ; exact hQ) | (rw [wB_ok (by assumption) (by assumption)] at hQ; exact hQ)
    ·
      refine ev_iconst k138_10 ?_
      refine ev_goto k138_11 ?_
      refine ev_rz k138_15 rfl (by first | exact bI01 _ | exact Or.inl rfl | exact Or.inr rfl | assumption) ?_
      first | (rw [wB_lo (by assumption)] at hQ; exact hQ) | (rw [wB_hi (by assumption)] at hQ; exact hQ) | (rw [wB_ok (by assumption) (by assumption)] at hQ; exact hQ)
/-- Model.held -/
theorem sp_held {T : List mm_C} {X : Nat × (Nat → Int32)} {d : Nat} {I : mm_I} {v lo hi : Int32} {P : Int32 → mm_I → Prop} (hQ : P (if v < lo then lo else if hi < v then hi else v) I) : mm_Ev T X (d) 139 0 (mm_ent 139 [.int v, .int lo, .int hi]) [] I (mm_pi P) := by
  show mm_Ev T X (d) 139 0 [.int v, .int lo, .int hi] [] I (mm_pi P)
  refine ev_ild0 k139_0 ?_
  refine ev_ild1 k139_1 ?_
  refine ev_jcmp_ge k139_2 (fun h2 => ?_) (fun h2 => ?_)
  ·
    refine ev_ild0 k139_9 ?_
    refine ev_ild2 k139_10 ?_
    refine ev_jcmp_le k139_11 (fun h11 => ?_) (fun h11 => ?_)
    ·
      refine ev_ild0 k139_18 ?_
      refine ev_ri k139_19 rfl ?_
      simp only [*, if_true, if_false] at hQ
      exact hQ
    ·
      refine ev_ild2 k139_14 ?_
      refine ev_goto k139_15 ?_
      refine ev_ri k139_19 rfl ?_
      simp only [*, if_true, if_false] at hQ
      exact hQ
  ·
    refine ev_ild1 k139_5 ?_
    refine ev_goto k139_6 ?_
    refine ev_ri k139_19 rfl ?_
    simp only [*, if_true, if_false] at hQ
    exact hQ
/-- Model.isBill -/
theorem sm_isBill {T : List mm_C} {X : Nat × (Nat → Int32)} {d : Nat} {I : mm_I} {v : Int32} {P : Int32 → mm_I → Prop} (hQ : P (bI (wB 0 7 v)) I) : mm_Ev T X (d + 1) 144 0 (mm_ent 144 [.int v]) [] I (mm_pi P) := by
  show mm_Ev T X (d + 1) 144 0 [.int v] [] I (mm_pi P)
  refine ev_ild0 k144_0 ?_
  refine ev_iconst k144_1 ?_
  refine ev_bipush k144_2 ?_
  refine ev_cS3i k144_4 cs_224 rfl rfl rfl ?_
  refine sp_in ?_
  refine ev_rz k144_7 rfl (by first | exact bI01 _ | exact Or.inl rfl | exact Or.inr rfl | assumption) ?_
  exact hQ
/-- Model.isKm -/
theorem sm_isKm {T : List mm_C} {X : Nat × (Nat → Int32)} {d : Nat} {I : mm_I} {v : Int32} {P : Int32 → mm_I → Prop} (hQ : P (bI (wB 0 69 v)) I) : mm_Ev T X (d + 1) 159 0 (mm_ent 159 [.int v]) [] I (mm_pi P) := by
  show mm_Ev T X (d + 1) 159 0 [.int v] [] I (mm_pi P)
  refine ev_ild0 k159_0 ?_
  refine ev_iconst k159_1 ?_
  refine ev_bipush k159_2 ?_
  refine ev_cS3i k159_4 cs_224 rfl rfl rfl ?_
  refine sp_in ?_
  refine ev_rz k159_7 rfl (by first | exact bI01 _ | exact Or.inl rfl | exact Or.inr rfl | assumption) ?_
  exact hQ
/-- Model.isSheet -/
theorem sm_isSheet {T : List mm_C} {X : Nat × (Nat → Int32)} {d : Nat} {I : mm_I} {v : Int32} {P : Int32 → mm_I → Prop} (hQ : P (bI (wB 0 3 v)) I) : mm_Ev T X (d + 1) 229 0 (mm_ent 229 [.int v]) [] I (mm_pi P) := by
  show mm_Ev T X (d + 1) 229 0 [.int v] [] I (mm_pi P)
  refine ev_ild0 k229_0 ?_
  refine ev_iconst k229_1 ?_
  refine ev_iconst k229_2 ?_
  refine ev_cS3i k229_3 cs_224 rfl rfl rfl ?_
  refine sp_in ?_
  refine ev_rz k229_6 rfl (by first | exact bI01 _ | exact Or.inl rfl | exact Or.inr rfl | assumption) ?_
  exact hQ
/-- CV.isBits -/
theorem sp_isBits {T : List mm_C} {X : Nat × (Nat → Int32)} {d : Nat} {I : mm_I} {v : Int32} {P : Int32 → mm_I → Prop} (hQ : P (bI (decide (v = 0) || decide (v = 8) || decide (v = 16) || decide (v = 32))) I) : mm_Ev T X (d) 124 0 (mm_ent 124 [.int v]) [] I (mm_pi P) := by
  show mm_Ev T X (d) 124 0 [.int v] [] I (mm_pi P)
  refine ev_ild0 k124_0 ?_
  refine ev_if_eq k124_1 (fun h1 => ?_) (fun h1 => ?_)
  ·
    refine ev_iconst k124_22 ?_
    refine ev_goto k124_23 ?_
    refine ev_rz k124_27 rfl (by first | exact bI01 _ | exact Or.inl rfl | exact Or.inr rfl | assumption) ?_
    simpa [bI, *] using hQ
  ·
    refine ev_ild0 k124_4 ?_
    refine ev_bipush k124_5 ?_
    refine ev_icmp_eq k124_7 (fun h7 => ?_) (fun h7 => ?_)
    ·
      refine ev_iconst k124_22 ?_
      refine ev_goto k124_23 ?_
      refine ev_rz k124_27 rfl (by first | exact bI01 _ | exact Or.inl rfl | exact Or.inr rfl | assumption) ?_
      simpa [bI, *] using hQ
    ·
      refine ev_ild0 k124_10 ?_
      refine ev_bipush k124_11 ?_
      refine ev_icmp_eq k124_13 (fun h13 => ?_) (fun h13 => ?_)
      ·
        refine ev_iconst k124_22 ?_
        refine ev_goto k124_23 ?_
        refine ev_rz k124_27 rfl (by first | exact bI01 _ | exact Or.inl rfl | exact Or.inr rfl | assumption) ?_
        simpa [bI, *] using hQ
      ·
        refine ev_ild0 k124_16 ?_
        refine ev_bipush k124_17 ?_
        refine ev_icmp_ne k124_19 (fun h19 => ?_) (fun h19 => ?_)
        ·
          refine ev_iconst k124_26 ?_
          refine ev_rz k124_27 rfl (by first | exact bI01 _ | exact Or.inl rfl | exact Or.inr rfl | assumption) ?_
          simpa [bI, *] using hQ
        ·
          refine ev_iconst k124_22 ?_
          refine ev_goto k124_23 ?_
          refine ev_rz k124_27 rfl (by first | exact bI01 _ | exact Or.inl rfl | exact Or.inr rfl | assumption) ?_
          simpa [bI, *] using hQ
/-- Integer.bitCount, as the JDK has it -/
def us (x y : Int32) : Int32 := (x.toUInt32 >>> (y.toUInt32 &&& Int32.toUInt32 31)).toInt32
def bc (v : Int32) : Int32 :=
  let a := v - (us v 1 &&& 1431655765)
  let b := (a &&& 858993459) + (us a 2 &&& 858993459)
  let c := (b + us b 4) &&& 252645135
  let d := c + us c 8
  let e := d + us d 16
  e &&& 63
/-- Integer.bitCount -/
theorem sp_bitCount {T : List mm_C} {X : Nat × (Nat → Int32)} {d : Nat} {I : mm_I} {v : Int32} {P : Int32 → mm_I → Prop} (hQ : P (bc v) I) : mm_Ev T X (d) 251 0 (mm_ent 251 [.int v]) [] I (mm_pi P) := by
  show mm_Ev T X (d) 251 0 [.int v] [] I (mm_pi P)
  refine ev_ild0 k251_0 ?_
  refine ev_ild0 k251_1 ?_
  refine ev_iconst k251_2 ?_
  refine ev_iushr k251_3 ?_
  refine ev_ldc_w k251_4 ?_
  refine ev_iand k251_7 ?_
  refine ev_isub k251_8 ?_
  refine ev_ist0 k251_9 ?_
  refine ev_ild0 k251_10 ?_
  refine ev_ldc_w k251_11 ?_
  refine ev_iand k251_14 ?_
  refine ev_ild0 k251_15 ?_
  refine ev_iconst k251_16 ?_
  refine ev_iushr k251_17 ?_
  refine ev_ldc_w k251_18 ?_
  refine ev_iand k251_21 ?_
  refine ev_iadd k251_22 ?_
  refine ev_ist0 k251_23 ?_
  refine ev_ild0 k251_24 ?_
  refine ev_ild0 k251_25 ?_
  refine ev_iconst k251_26 ?_
  refine ev_iushr k251_27 ?_
  refine ev_iadd k251_28 ?_
  refine ev_ldc_w k251_29 ?_
  refine ev_iand k251_32 ?_
  refine ev_ist0 k251_33 ?_
  refine ev_ild0 k251_34 ?_
  refine ev_ild0 k251_35 ?_
  refine ev_bipush k251_36 ?_
  refine ev_iushr k251_38 ?_
  refine ev_iadd k251_39 ?_
  refine ev_ist0 k251_40 ?_
  refine ev_ild0 k251_41 ?_
  refine ev_ild0 k251_42 ?_
  refine ev_bipush k251_43 ?_
  refine ev_iushr k251_45 ?_
  refine ev_iadd k251_46 ?_
  refine ev_ist0 k251_47 ?_
  refine ev_ild0 k251_48 ?_
  refine ev_bipush k251_49 ?_
  refine ev_iand k251_51 ?_
  refine ev_ri k251_52 rfl ?_
  exact hQ
/-- CV.moversBetween -/
theorem sp_moversBetween {T : List mm_C} {X : Nat × (Nat → Int32)} {d : Nat} {I : mm_I} {t u : Int32} {P : Int32 → mm_I → Prop} (hQ : P (if bc (t &&& (u ^^^ (-1))) < bc (u &&& (t ^^^ (-1))) then bc (u &&& (t ^^^ (-1))) else bc (t &&& (u ^^^ (-1)))) I) : mm_Ev T X (d + 1) 133 0 (mm_ent 133 [.int t, .int u]) [] I (mm_pi P) := by
  show mm_Ev T X (d + 1) 133 0 [.int t, .int u] [] I (mm_pi P)
  refine ev_ild0 k133_0 ?_
  refine ev_ild1 k133_1 ?_
  refine ev_iconst k133_2 ?_
  refine ev_ixor k133_3 ?_
  refine ev_iand k133_4 ?_
  refine ev_cS1i k133_5 cs_198 rfl rfl rfl ?_
  refine sp_bitCount ?_
  refine ev_ild1 k133_8 ?_
  refine ev_ild0 k133_9 ?_
  refine ev_iconst k133_10 ?_
  refine ev_ixor k133_11 ?_
  refine ev_iand k133_12 ?_
  refine ev_cS1i k133_13 cs_198 rfl rfl rfl ?_
  refine sp_bitCount ?_
  refine ev_max k133_16 rfl ?_
  refine ev_ri k133_19 rfl ?_
  exact hQ
