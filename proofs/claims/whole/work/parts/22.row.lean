/-! Row -/
def inB (i len : Int32) : Bool := !decide (i < 0) && decide (i < len)
def cut (b v : Int32) : Int32 := if b = 8 then v.toInt8.toInt32 else if b = 16 then v.toInt16.toInt32 else v
theorem inB_nI {i : Int32} {n : Nat} (hn : n < 2 ^ 31) (h : inB i (nI n) = true) : ∃ j : Nat, j < n ∧ i = nI j := by
  simp only [inB, Bool.and_eq_true, Bool.not_eq_true', decide_eq_false_iff_not, decide_eq_true_eq] at h
  obtain ⟨j, hj, rfl⟩ := nI_of h.1
  exact ⟨j, (nI_ltI hj hn).mp h.2, rfl⟩
theorem inB_of {j n : Nat} (h : j < n) (hn : n < 2 ^ 31) : inB (nI j) (nI n) = true := by
  simp only [inB, Bool.and_eq_true, Bool.not_eq_true', decide_eq_false_iff_not, decide_eq_true_eq]
  exact ⟨nI_pos (by omega), (nI_ltI (by omega) hn).mpr h⟩
theorem inB_not {i : Int32} {n : Nat} (hn : n < 2 ^ 31) (h : inB i (nI n) = false) : i < 0 ∨ ∃ j : Nat, n ≤ j ∧ j < 2 ^ 31 ∧ i = nI j := by
  by_cases h0 : i < 0
  · exact Or.inl h0
  · obtain ⟨j, hj, rfl⟩ := nI_of h0
    refine Or.inr ⟨j, ?_, hj, rfl⟩
    simp only [inB, h0, decide_false, Bool.not_false, Bool.true_and, decide_eq_false_iff_not] at h
    exact Nat.not_lt.mp (fun z => h ((nI_ltI hj hn).mpr z))
abbrev rC (ra : Nat) : mm_C := (7, 3, [.ref (ra + 1), .int 0, .int 0])
abbrev aC (n : Nat) : mm_C := (100, n, [])
/-- Row.has -/
theorem sp_has {T : List mm_C} {X : Nat × (Nat → Int32)} {d : Nat} {I : mm_I} {ra : Nat} {i : Int32} {P : Int32 → mm_I → Prop} (hr : T[ra]? = some (rC ra)) (hQ : P (bI (inB i (I ra 2))) I) : mm_Ev T X (d) 53 0 (mm_ent 53 [.ref ra, .int i]) [] I (mm_pi P) := by
  show mm_Ev T X (d) 53 0 [.ref ra, .int i] [] I (mm_pi P)
  refine ev_ild1 k53_0 ?_
  refine ev_if_lt k53_1 (fun h1 => ?_) (fun h1 => ?_)
  ·
    refine ev_iconst k53_16 ?_
    refine ev_rz k53_17 rfl (by first | exact bI01 _ | exact Or.inl rfl | exact Or.inr rfl | assumption) ?_
    simpa [inB, bI, *] using hQ
  ·
    refine ev_ild1 k53_4 ?_
    refine ev_ald0 k53_5 ?_
    refine ev_gf (j := 2) k53_6 (by first | assumption | rfl) rfl rfl rfl rfl ?_
    refine ev_jcmp_ge k53_9 (fun h9 => ?_) (fun h9 => ?_)
    ·
      refine ev_iconst k53_16 ?_
      refine ev_rz k53_17 rfl (by first | exact bI01 _ | exact Or.inl rfl | exact Or.inr rfl | assumption) ?_
      simpa [inB, bI, *] using hQ
    ·
      refine ev_iconst k53_12 ?_
      refine ev_goto k53_13 ?_
      refine ev_rz k53_17 rfl (by first | exact bI01 _ | exact Or.inl rfl | exact Or.inr rfl | assumption) ?_
      simpa [inB, bI, *] using hQ
/-- Row.get -/
theorem sp_get {T : List mm_C} {X : Nat × (Nat → Int32)} {d : Nat} {I : mm_I} {ra N n : Nat} {i : Int32} {P : Int32 → mm_I → Prop} (hr : T[ra]? = some (rC ra)) (hn : T[ra + 1]? = some (aC N)) (ha : ra < 900) (hl : I ra 2 = nI n) (hN : n ≤ N) (hN2 : N ≤ 1000) (hQ : P (if inB i (nI n) then I (ra + 1) i.toNatClampNeg else 0) I) : mm_Ev T X (d + 1) 55 0 (mm_ent 55 [.ref ra, .int i]) [] I (mm_pi P) := by
  show mm_Ev T X (d + 1) 55 0 [.ref ra, .int i] [] I (mm_pi P)
  refine ev_ald0 k55_0 ?_
  refine ev_ild1 k55_1 ?_
  refine ev_cV2i k55_2 cs_143 (by first | assumption | rfl) (by omega) (Nat.le_of_ble_eq_true rfl) rfl rfl rfl ?_
  refine sp_has (by assumption) ?_
  rw [hl]
  refine ev_ifz_eq k55_5 (fun h5 => ?_) (fun h5 => ?_)
  ·
    refine ev_iconst k55_17 ?_
    refine ev_ri k55_18 rfl ?_
    simp only [h5, if_true, if_false, Bool.false_eq_true] at hQ
    exact hQ
  ·
    refine ev_ald0 k55_8 ?_
    refine ev_getr k55_9 (by first | assumption | rfl) rfl rfl rfl ?_
    refine ev_ild1 k55_12 ?_
    have hi : vp_in i N := by
      obtain ⟨j, hj, rfl⟩ := inB_nI (by omega) h5
      exact vp_in_nI (by omega) (by omega)
    refine ev_ial (j := _) k55_13 (by first | assumption | rfl) (by omega) rfl (by assumption) ?_
    refine ev_goto k55_14 ?_
    refine ev_ri k55_18 rfl ?_
    simp only [h5, if_true, if_false, Bool.false_eq_true] at hQ
    exact hQ
/-- Row.cutToBits -/
theorem sp_cut {T : List mm_C} {X : Nat × (Nat → Int32)} {d : Nat} {I : mm_I} {ra : Nat} {v : Int32} {P : Int32 → mm_I → Prop} (hr : T[ra]? = some (rC ra)) (hQ : P (cut (I ra 1) v) I) : mm_Ev T X (d) 63 0 (mm_ent 63 [.ref ra, .int v]) [] I (mm_pi P) := by
  show mm_Ev T X (d) 63 0 [.ref ra, .int v] [] I (mm_pi P)
  refine ev_ald0 k63_0 ?_
  refine ev_gf (j := 1) k63_1 (by first | assumption | rfl) rfl rfl rfl rfl ?_
  refine ev_bipush k63_4 ?_
  refine ev_icmp_ne k63_6 (fun h6 => ?_) (fun h6 => ?_)
  ·
    refine ev_ald0 k63_12 ?_
    refine ev_gf (j := 1) k63_13 (by first | assumption | rfl) rfl rfl rfl rfl ?_
    refine ev_bipush k63_16 ?_
    refine ev_icmp_ne k63_18 (fun h18 => ?_) (fun h18 => ?_)
    ·
      refine ev_ild1 k63_26 ?_
      refine ev_ri k63_27 rfl ?_
      simp only [cut, *, if_true, if_false] at hQ
      exact hQ
    ·
      refine ev_ild1 k63_21 ?_
      refine ev_i2s k63_22 ?_
      refine ev_goto k63_23 ?_
      refine ev_ri k63_27 rfl ?_
      simp only [cut, *, if_true, if_false] at hQ
      exact hQ
  ·
    refine ev_ild1 k63_9 ?_
    refine ev_i2b k63_10 ?_
    refine ev_ri k63_11 rfl ?_
    simp only [cut, *, if_true, if_false] at hQ
    exact hQ
/-- Row.set -/
theorem sp_set {T : List mm_C} {X : Nat × (Nat → Int32)} {d : Nat} {I : mm_I} {ra N n : Nat} {i v : Int32} {P : mm_I → Prop} (hr : T[ra]? = some (rC ra)) (hn : T[ra + 1]? = some (aC N)) (ha : ra < 900) (hl : I ra 2 = nI n) (hN : n ≤ N) (hN2 : N ≤ 1000) (hQ : P (if inB i (nI n) then mm_up I (ra + 1) i.toNatClampNeg (cut (I ra 1) v) else I)) : mm_Ev T X (d + 1) 56 0 (mm_ent 56 [.ref ra, .int i, .int v]) [] I (mm_pv P) := by
  show mm_Ev T X (d + 1) 56 0 [.ref ra, .int i, .int v] [] I (mm_pv P)
  refine ev_ald0 k56_0 ?_
  refine ev_ild1 k56_1 ?_
  refine ev_cV2i k56_2 cs_143 (by first | assumption | rfl) (by omega) (Nat.le_of_ble_eq_true rfl) rfl rfl rfl ?_
  refine sp_has (by assumption) ?_
  rw [hl]
  refine ev_ifz_eq k56_5 (fun h5 => ?_) (fun h5 => ?_)
  ·
    refine ev_rv k56_19 rfl ?_
    simp only [h5, if_true, if_false, Bool.false_eq_true] at hQ
    exact hQ
  ·
    refine ev_ald0 k56_8 ?_
    refine ev_getr k56_9 (by first | assumption | rfl) rfl rfl rfl ?_
    refine ev_ild1 k56_12 ?_
    refine ev_ald0 k56_13 ?_
    refine ev_ild2 k56_14 ?_
    refine ev_cV2i k56_15 cs_144 (by first | assumption | rfl) (by omega) (Nat.le_of_ble_eq_true rfl) rfl rfl rfl ?_
    refine sp_cut (by assumption) ?_
    have hi : vp_in i N := by
      obtain ⟨j, hj, rfl⟩ := inB_nI (by omega) h5
      exact vp_in_nI (by omega) (by omega)
    refine ev_ias (j := _) k56_18 (by first | assumption | rfl) rfl (by assumption) ?_
    refine ev_rv k56_19 rfl ?_
    simp only [h5, if_true, if_false, Bool.false_eq_true] at hQ
    exact hQ
/-- Row.add -/
theorem sp_add {T : List mm_C} {X : Nat × (Nat → Int32)} {d : Nat} {I : mm_I} {ra N n : Nat} {v : Int32} {P : mm_I → Prop} (hr : T[ra]? = some (rC ra)) (hn : T[ra + 1]? = some (aC N)) (ha : ra < 900) (hl : I ra 2 = nI n) (hN : n ≤ N) (hN2 : N ≤ 1000) (hQ : P (if n < N then mm_up (mm_up I (ra + 1) n (cut (I ra 1) v)) ra 2 (nI (n + 1)) else I)) : mm_Ev T X (d + 1) 57 0 (mm_ent 57 [.ref ra, .int v]) [] I (mm_pv P) := by
  show mm_Ev T X (d + 1) 57 0 [.ref ra, .int v] [] I (mm_pv P)
  refine ev_ald0 k57_0 ?_
  refine ev_gf (j := 2) k57_1 (by first | assumption | rfl) rfl rfl rfl rfl ?_
  refine ev_ald0 k57_4 ?_
  refine ev_getr k57_5 (by first | assumption | rfl) rfl rfl rfl ?_
  refine ev_alen k57_8 (by first | assumption | rfl) (by omega) ?_
  rw [hl, show Int32.ofNat N = nI N from rfl]
  refine ev_jcmp_ge k57_9 (fun h9 => ?_) (fun h9 => ?_)
  ·
    refine ev_rv k57_36 rfl ?_
    first | (rw [if_pos ((nI_ltI (by omega) (by omega)).mp h9), ← nI_1] at hQ; exact hQ) | (rw [if_neg (fun z => h9 ((nI_ltI (by omega) (by omega)).mpr z))] at hQ; exact hQ)
  ·
    have hlt : n < N := (nI_ltI (by omega) (by omega)).mp h9
    refine ev_ald0 k57_12 ?_
    refine ev_getr k57_13 (by first | assumption | rfl) rfl rfl rfl ?_
    refine ev_ald0 k57_16 ?_
    refine ev_gf (j := 2) k57_17 (by first | assumption | rfl) rfl rfl rfl rfl ?_
    rw [hl]
    refine ev_ald0 k57_20 ?_
    refine ev_ild1 k57_21 ?_
    refine ev_cV2i k57_22 cs_144 (by first | assumption | rfl) (by omega) (Nat.le_of_ble_eq_true rfl) rfl rfl rfl ?_
    refine sp_cut (by assumption) ?_
    refine ev_ias (j := n) k57_25 (by first | assumption | rfl) (nI_clamp (by omega)) (vp_in_nI hlt (by omega)) ?_
    refine ev_ald0 k57_26 ?_
    refine ev_dup k57_27 rfl ?_
    refine ev_gf (j := 2) k57_28 (by first | assumption | rfl) rfl rfl rfl rfl ?_
    have e1 : mm_up I (ra + 1) n (cut (I ra 1) v) ra 2 = nI n := by simp [mm_up_at, hl]
    rw [e1]
    refine ev_iconst k57_31 ?_
    refine ev_iadd k57_32 ?_
    refine ev_pf (j := 2) k57_33 (by first | assumption | rfl) rfl rfl rfl ?_
    refine ev_rv k57_36 rfl ?_
    first | (rw [if_pos ((nI_ltI (by omega) (by omega)).mp h9), ← nI_1] at hQ; exact hQ) | (rw [if_neg (fun z => h9 ((nI_ltI (by omega) (by omega)).mpr z))] at hQ; exact hQ)
/-- Row.clear -/
theorem sp_clear {T : List mm_C} {X : Nat × (Nat → Int32)} {d : Nat} {I : mm_I} {ra : Nat} {P : mm_I → Prop} (hr : T[ra]? = some (rC ra)) (hQ : P (mm_up I ra 2 0)) : mm_Ev T X (d) 59 0 (mm_ent 59 [.ref ra]) [] I (mm_pv P) := by
  show mm_Ev T X (d) 59 0 [.ref ra] [] I (mm_pv P)
  refine ev_ald0 k59_0 ?_
  refine ev_iconst k59_1 ?_
  refine ev_pf (j := 2) k59_2 (by first | assumption | rfl) rfl rfl rfl ?_
  refine ev_rv k59_5 rfl ?_
  exact hQ
/-- Row.spans -/
theorem sp_spans {T : List mm_C} {X : Nat × (Nat → Int32)} {d : Nat} {I : mm_I} {ra : Nat} {i n : Int32} {P : Int32 → mm_I → Prop} (hr : T[ra]? = some (rC ra)) (hQ : P (bI (!decide (i < 0) && !decide (n < 0) && !decide (I ra 2 - n < i))) I) : mm_Ev T X (d) 54 0 (mm_ent 54 [.ref ra, .int i, .int n]) [] I (mm_pi P) := by
  show mm_Ev T X (d) 54 0 [.ref ra, .int i, .int n] [] I (mm_pi P)
  refine ev_ild1 k54_0 ?_
  refine ev_if_lt k54_1 (fun h1 => ?_) (fun h1 => ?_)
  ·
    refine ev_iconst k54_22 ?_
    refine ev_rz k54_23 rfl (by first | exact bI01 _ | exact Or.inl rfl | exact Or.inr rfl | assumption) ?_
    simpa [bI, *] using hQ
  ·
    refine ev_ild2 k54_4 ?_
    refine ev_if_lt k54_5 (fun h5 => ?_) (fun h5 => ?_)
    ·
      refine ev_iconst k54_22 ?_
      refine ev_rz k54_23 rfl (by first | exact bI01 _ | exact Or.inl rfl | exact Or.inr rfl | assumption) ?_
      simpa [bI, *] using hQ
    ·
      refine ev_ild1 k54_8 ?_
      refine ev_ald0 k54_9 ?_
      refine ev_gf (j := 2) k54_10 (by first | assumption | rfl) rfl rfl rfl rfl ?_
      refine ev_ild2 k54_13 ?_
      refine ev_isub k54_14 ?_
      refine ev_icmp_gt k54_15 (fun h15 => ?_) (fun h15 => ?_)
      ·
        refine ev_iconst k54_22 ?_
        refine ev_rz k54_23 rfl (by first | exact bI01 _ | exact Or.inl rfl | exact Or.inr rfl | assumption) ?_
        simpa [bI, *] using hQ
      ·
        refine ev_iconst k54_18 ?_
        refine ev_goto k54_19 ?_
        refine ev_rz k54_23 rfl (by first | exact bI01 _ | exact Or.inl rfl | exact Or.inr rfl | assumption) ?_
        simpa [bI, *] using hQ
def mm_fl (I : mm_I) (a i : Nat) (v : Int32) : mm_I := fun k' => if k' = a then (fun j => if j < i then v else I a j) else I k'
theorem mm_fl_0 (I : mm_I) (a : Nat) (v : Int32) : mm_fl I a 0 v = I := by
  funext k' j
  by_cases h : k' = a
  · subst h; simp [mm_fl]
  · simp [mm_fl, h]
theorem mm_fl_s (I : mm_I) (a i : Nat) (v : Int32) : mm_up (mm_fl I a i v) a i v = mm_fl I a (i + 1) v := by
  funext k' j
  by_cases h : k' = a
  · subst h
    by_cases hj : j = i
    · subst hj; simp [mm_up, mm_fl, upd]
    · have e : (j < i + 1) = (j < i) := by apply propext; omega
      simp [mm_up, mm_fl, upd, hj, e]
  · simp [mm_up, mm_fl, h]
theorem lp_fill {T : List mm_C} {X : Nat × (Nat → Int32)} {d : Nat} {I : mm_I} {a N : Nat} {v : Int32} {P : mm_I → Prop} (hn : T[a]? = some (aC N)) (ha : a < 1000) (hN : N ≤ 1000) (hQ : P (mm_fl I a N v)) : ∀ (n i : Nat), i + n = N → mm_Ev T X d 252 5 [.ref a, .int v, .int (nI i), .int (nI N)] [] (mm_fl I a i v) (mm_pv P) := by
  intro n
  induction n with
  | zero =>
    intro i hi
    have e : i = N := by omega
    subst e
    refine ev_ild2 k252_5 ?_
    refine ev_ild3 k252_6 ?_
    refine ev_jcmp_ge k252_7 (fun h7 => ?_) (fun h7 => absurd h7 (nI_nlt (Nat.le_refl _) (by omega)))
    refine ev_rv k252_20 rfl ?_
    exact hQ
  | succ n ih =>
    intro i hi
    have hlt : i < N := by omega
    refine ev_ild2 k252_5 ?_
    refine ev_ild3 k252_6 ?_
    refine ev_jcmp_ge k252_7 (fun h7 => absurd (nI_lt hlt (by omega)) h7) (fun h7 => ?_)
    refine ev_ald0 k252_10 ?_
    refine ev_ild2 k252_11 ?_
    refine ev_ild1 k252_12 ?_
    refine ev_ias (j := i) k252_13 (by first | assumption | rfl) (nI_clamp (by omega)) (vp_in_nI hlt (by omega)) ?_
    refine ev_inc2 k252_14 rfl ?_
    refine ev_goto k252_17 ?_
    rw [nI_1, mm_fl_s]
    exact ih (i + 1) (by omega)
/-- Arrays.fill -/
theorem sp_fill {T : List mm_C} {X : Nat × (Nat → Int32)} {d : Nat} {I : mm_I} {a N : Nat} {v : Int32} {P : mm_I → Prop} (hn : T[a]? = some (aC N)) (ha : a < 1000) (hN : N ≤ 1000) (hQ : P (mm_fl I a N v)) : mm_Ev T X (d) 252 0 (mm_ent 252 [.ref a, .int v]) [] I (mm_pv P) := by
  show mm_Ev T X (d) 252 0 [.ref a, .int v, .retAddr 0, .retAddr 0] [] I (mm_pv P)
  refine ev_iconst k252_0 ?_
  refine ev_ist2 k252_1 rfl ?_
  refine ev_ald0 k252_2 ?_
  refine ev_alen k252_3 (by first | assumption | rfl) (by omega) ?_
  refine ev_ist3 k252_4 rfl ?_
  have h := lp_fill (X := X) (d := d) (v := v) (P := P) hn ha hN hQ N 0 (by omega)
  rw [mm_fl_0] at h
  exact h
/-- Row.shape -/
theorem sp_shape {T : List mm_C} {X : Nat × (Nat → Int32)} {d : Nat} {I : mm_I} {ra N : Nat} {b n : Int32} {P : mm_I → Prop} (hr : T[ra]? = some (rC ra)) (hn : T[ra + 1]? = some (aC N)) (ha : ra < 900) (hN2 : N ≤ 900) (hQ : P (mm_fl (mm_up (mm_up I ra 1 b) ra 2 (if 0 < (if nI N < n then nI N else n) then (if nI N < n then nI N else n) else 0)) (ra + 1) N 0)) : mm_Ev T X (d + 1) 60 0 (mm_ent 60 [.ref ra, .int b, .int n]) [] I (mm_pv P) := by
  show mm_Ev T X (d + 1) 60 0 [.ref ra, .int b, .int n] [] I (mm_pv P)
  refine ev_ald0 k60_0 ?_
  refine ev_ild1 k60_1 ?_
  refine ev_pf (j := 1) k60_2 (by first | assumption | rfl) rfl rfl rfl ?_
  refine ev_ald0 k60_5 ?_
  refine ev_iconst k60_6 ?_
  refine ev_ild2 k60_7 ?_
  refine ev_ald0 k60_8 ?_
  refine ev_getr k60_9 (by first | assumption | rfl) rfl rfl rfl ?_
  refine ev_alen k60_12 (by first | assumption | rfl) (by omega) ?_
  refine ev_min k60_13 rfl ?_
  refine ev_max k60_16 rfl ?_
  refine ev_pf (j := 2) k60_19 (by first | assumption | rfl) rfl rfl rfl ?_
  refine ev_ald0 k60_22 ?_
  refine ev_getr k60_23 (by first | assumption | rfl) rfl rfl rfl ?_
  refine ev_iconst k60_26 ?_
  refine ev_cS2v k60_27 cs_146 rfl rfl rfl ?_
  refine sp_fill hn (by omega) (by omega) ?_
  refine ev_rv k60_30 rfl ?_
  exact hQ
/-- Row.copyFrom -/
theorem sp_copyFrom {T : List mm_C} {X : Nat × (Nat → Int32)} {d : Nat} {I : mm_I} {ra rb N N2 n : Nat} {P : mm_I → Prop} (hr : T[ra]? = some (rC ra)) (hn : T[ra + 1]? = some (aC N)) (ha : ra < 900) (hr2 : T[rb]? = some (rC rb)) (hn2 : T[rb + 1]? = some (aC N2)) (hb : rb < 900) (hab : rb ≠ ra) (hl : I rb 2 = nI n) (hN : n ≤ N) (hN2 : n ≤ N2) (hN3 : N ≤ 900) (hQ : P (mm_cp (mm_up (mm_up I ra 1 (I rb 1)) ra 2 (nI n)) (rb + 1) 0 (ra + 1) 0 n)) : mm_Ev T X (d) 61 0 (mm_ent 61 [.ref ra, .ref rb]) [] I (mm_pv P) := by
  show mm_Ev T X (d) 61 0 [.ref ra, .ref rb] [] I (mm_pv P)
  refine ev_ald0 k61_0 ?_
  refine ev_ald1 k61_1 ?_
  refine ev_gf (j := 1) k61_2 (by first | assumption | rfl) rfl rfl rfl rfl ?_
  refine ev_pf (j := 1) k61_5 (by first | assumption | rfl) rfl rfl rfl ?_
  refine ev_ald0 k61_8 ?_
  refine ev_ald1 k61_9 ?_
  refine ev_gf (j := 2) k61_10 (by first | assumption | rfl) rfl rfl rfl rfl ?_
  have e1 : mm_up I ra 1 (I rb 1) rb 2 = nI n := by simp [mm_up_at, hab, hl]
  rw [e1]
  refine ev_ald0 k61_13 ?_
  refine ev_getr k61_14 (by first | assumption | rfl) rfl rfl rfl ?_
  refine ev_alen k61_17 (by first | assumption | rfl) (by omega) ?_
  refine ev_min k61_18 rfl ?_
  rw [show Int32.ofNat N = nI N from rfl, if_neg (nI_nlt hN (by omega))]
  refine ev_pf (j := 2) k61_21 (by first | assumption | rfl) rfl rfl rfl ?_
  refine ev_ald1 k61_24 ?_
  refine ev_getr k61_25 (by first | assumption | rfl) rfl rfl rfl ?_
  refine ev_iconst k61_28 ?_
  refine ev_ald0 k61_29 ?_
  refine ev_getr k61_30 (by first | assumption | rfl) rfl rfl rfl ?_
  refine ev_iconst k61_33 ?_
  refine ev_ald0 k61_34 ?_
  refine ev_gf (j := 2) k61_35 (by first | assumption | rfl) rfl rfl rfl rfl ?_
  have e2 : mm_up (mm_up I ra 1 (I rb 1)) ra 2 (nI n) ra 2 = nI n := by simp [mm_up_at]
  rw [e2]
  refine ev_copy k61_38 (by first | assumption | rfl) (by first | assumption | rfl) (by decide) (by decide) (nI_pos (by omega)) (by rw [nI_clamp (by omega)]; simpa using hN2) (by rw [nI_clamp (by omega)]; simpa using hN) (by decide) ?_
  refine ev_rv k61_41 rfl ?_
  rw [nI_clamp (by omega)]
  exact hQ
/-- Row.take -/
theorem sp_take {T : List mm_C} {X : Nat × (Nat → Int32)} {d : Nat} {I : mm_I} {ra rb N N2 i0 j0 n0 la lb : Nat} {i j n : Int32} {P : mm_I → Prop} (hr : T[ra]? = some (rC ra)) (hn : T[ra + 1]? = some (aC N)) (ha : ra < 900) (hr2 : T[rb]? = some (rC rb)) (hn2 : T[rb + 1]? = some (aC N2)) (hb : rb < 900) (hi : i = nI i0) (hj : j = nI j0) (hm : n = nI n0) (hl : I ra 2 = nI la) (hl2 : I rb 2 = nI lb) (h1 : i0 + n0 ≤ lb) (h2 : j0 + n0 ≤ la) (h3 : la ≤ N) (h4 : lb ≤ N2) (h5 : N ≤ 900) (h6 : N2 ≤ 900) (hQ : P (mm_cp I (rb + 1) i0 (ra + 1) j0 n0)) : mm_Ev T X (d + 1) 62 0 (mm_ent 62 [.ref ra, .ref rb, .int i, .int j, .int n]) [] I (mm_pv P) := by
  show mm_Ev T X (d + 1) 62 0 [.ref ra, .ref rb, .int i, .int j, .int n] [] I (mm_pv P)
  subst hi hj hm
  refine ev_ald1 k62_0 ?_
  refine ev_ild2 k62_1 ?_
  refine ev_ild4 k62_2 ?_
  refine ev_cV3i k62_4 cs_147 (by first | assumption | rfl) (by omega) (Nat.le_of_ble_eq_true rfl) rfl rfl rfl ?_
  refine sp_spans (by assumption) ?_
  rw [hl2, pk_sub (by omega)]
  refine ev_ifz_eq k62_7 (fun h7 => absurd h7 (by simp [nI_pos (show i0 < 2 ^ 31 by omega), nI_pos (show n0 < 2 ^ 31 by omega), nI_nlt (show i0 ≤ lb - n0 by omega) (by omega)] )) (fun h7 => ?_)
  refine ev_ald0 k62_10 ?_
  refine ev_ild3 k62_11 ?_
  refine ev_ild4 k62_12 ?_
  refine ev_cV3i k62_14 cs_147 (by first | assumption | rfl) (by omega) (Nat.le_of_ble_eq_true rfl) rfl rfl rfl ?_
  refine sp_spans (by assumption) ?_
  rw [hl, pk_sub (by omega)]
  refine ev_ifz_eq k62_17 (fun h17 => absurd h17 (by simp [nI_pos (show j0 < 2 ^ 31 by omega), nI_pos (show n0 < 2 ^ 31 by omega), nI_nlt (show j0 ≤ la - n0 by omega) (by omega)] )) (fun h17 => ?_)
  refine ev_ald1 k62_20 ?_
  refine ev_getr k62_21 (by first | assumption | rfl) rfl rfl rfl ?_
  refine ev_ild2 k62_24 ?_
  refine ev_ald0 k62_25 ?_
  refine ev_getr k62_26 (by first | assumption | rfl) rfl rfl rfl ?_
  refine ev_ild3 k62_29 ?_
  refine ev_ild4 k62_30 ?_
  refine ev_copy k62_32 (by first | assumption | rfl) (by first | assumption | rfl) (nI_pos (by omega)) (nI_pos (by omega)) (nI_pos (by omega)) (by rw [nI_clamp (by omega), nI_clamp (by omega)]; omega) (by rw [nI_clamp (by omega), nI_clamp (by omega)]; omega) (by decide) ?_
  refine ev_rv k62_35 rfl ?_
  rw [nI_clamp (by omega), nI_clamp (by omega), nI_clamp (by omega)]
  exact hQ
/-- is v among the first n -/
def amg (f : Nat → Int32) (v : Int32) (n : Nat) : Bool := (fnd (fun i => decide (f i = v)) n 0).isSome
theorem lp_aut {T : List mm_C} {X : Nat × (Nat → Int32)} {d : Nat} {I : mm_I} {ra N l : Nat} {v : Int32} {P : mm_I → Prop} (hr : T[ra]? = some (rC ra)) (hn : T[ra + 1]? = some (aC N)) (ha : ra < 900) (hl : I ra 2 = nI l) (hN : l ≤ N) (hN2 : N ≤ 900) : ∀ (n i : Nat), i + n = l → P (if (fnd (fun i => decide (I (ra + 1) i = v)) n i).isSome then I else if l < N then mm_up (mm_up I (ra + 1) l (cut (I ra 1) v)) ra 2 (nI (l + 1)) else I) → mm_Ev T X (d + 2) 58 2 [.ref ra, .int v, .int (nI i)] [] I (mm_pv P) := by
  intro n
  induction n with
  | zero =>
    intro i hi hQ
    have e : i = l := by omega
    subst e
    refine ev_ild2 k58_2 ?_
    refine ev_ald0 k58_3 ?_
    refine ev_gf (j := 2) k58_4 (by first | assumption | rfl) rfl rfl rfl rfl ?_
    rw [hl]
    refine ev_jcmp_ge k58_7 (fun h7 => ?_) (fun h7 => absurd h7 (nI_nlt (Nat.le_refl _) (by omega)))
    refine ev_ald0 k58_27 ?_
    refine ev_ild1 k58_28 ?_
    refine ev_cV2v k58_29 cs_145 (by first | assumption | rfl) (by omega) (Nat.le_of_ble_eq_true rfl) rfl rfl rfl ?_
    refine sp_add hr hn ha hl hN (by omega) ?_
    refine ev_rv k58_32 rfl ?_
    exact hQ
  | succ n ih =>
    intro i hi hQ
    have hlt : i < l := by omega
    refine ev_ild2 k58_2 ?_
    refine ev_ald0 k58_3 ?_
    refine ev_gf (j := 2) k58_4 (by first | assumption | rfl) rfl rfl rfl rfl ?_
    rw [hl]
    refine ev_jcmp_ge k58_7 (fun h7 => absurd (nI_lt hlt (by omega)) h7) (fun h7 => ?_)
    refine ev_ald0 k58_10 ?_
    refine ev_getr k58_11 (by first | assumption | rfl) rfl rfl rfl ?_
    refine ev_ild2 k58_14 ?_
    refine ev_ial (j := i) k58_15 (by first | assumption | rfl) (by omega) (nI_clamp (by omega)) (vp_in_nI (show i < N by omega) (by omega)) ?_
    refine ev_ild1 k58_16 ?_
    refine ev_icmp_ne k58_17 (fun h17 => ?_) (fun h17 => ?_)
    ·
      refine ev_inc2 k58_21 rfl ?_
      refine ev_goto k58_24 ?_
      rw [nI_1]
      refine ih (i + 1) (by omega) ?_
      simp only [fnd, h17, decide_false, Bool.false_eq_true, if_false] at hQ
      exact hQ
    ·
      refine ev_rv k58_20 rfl ?_
      simp only [fnd, h17, decide_true, if_true, Option.isSome_some] at hQ
      exact hQ
/-- Row.addUnlessThere -/
theorem sp_aut {T : List mm_C} {X : Nat × (Nat → Int32)} {d : Nat} {I : mm_I} {ra N l : Nat} {v : Int32} {P : mm_I → Prop} (hr : T[ra]? = some (rC ra)) (hn : T[ra + 1]? = some (aC N)) (ha : ra < 900) (hl : I ra 2 = nI l) (hN : l ≤ N) (hN2 : N ≤ 900) (hQ : P (if amg (I (ra + 1)) v l then I else if l < N then mm_up (mm_up I (ra + 1) l (cut (I ra 1) v)) ra 2 (nI (l + 1)) else I)) : mm_Ev T X (d + 2) 58 0 (mm_ent 58 [.ref ra, .int v]) [] I (mm_pv P) := by
  show mm_Ev T X (d + 2) 58 0 [.ref ra, .int v, .retAddr 0] [] I (mm_pv P)
  refine ev_iconst k58_0 ?_
  refine ev_ist2 k58_1 rfl ?_
  exact lp_aut hr hn ha hl hN hN2 l 0 (by omega) hQ
