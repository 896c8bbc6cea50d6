/-! The calls: what they share -/
abbrev cvC : mm_C := (11, 10, [.ref 1, .ref 3, .ref 11, .ref 32, .ref 53, .ref 74, .ref 79, .ref 88, .ref 90, .int 0])
theorem tCV : mm_T0[0]? = some cvC := rfl
theorem hh11 : hH 11 := Or.inl rfl
theorem hh32 : hH 32 := Or.inr (Or.inl rfl)
theorem hh53 : hH 53 := Or.inr (Or.inr rfl)
theorem t90 : mm_T0[90]? = some (aC 6) := rfl
theorem t11 : mm_T0[11]? = some (hC 11) := rfl
theorem hsF {I : mm_I} {nc np : Nat} (hs : HS (cells I 11) (I 92) nc np) : I 11 1 = nI nc ∧ nc ≤ 6 ∧ I 11 7 = nI np ∧ np ≤ 6 ∧ I 92 2 = nI nc ∧ I 92 3 = nI np ∧ RM (cells I 11) I nc np ∧ hOK I 11 nc ∧ sR (cells I 11) nc np ∧ TR (cells I 11) I :=
  ⟨hs.1.1.2.2.2.2.1, hs.1.1.2.1, hs.1.1.2.2.2.2.2, hs.1.1.2.2.2.1, hs.1.1.1, hs.1.1.2.2.1, hs.1, hs.2.1, hs.2.2.1, hs.2.2.2.1⟩
section EVV
variable {T : List mm_C} {X : Nat × (Nat → Int32)} {d mid pc nx aux : Nat} {vv : Value} {ls st : List Value} {I : mm_I} {Q : Option Value → mm_I → Prop}
theorem ev_gfv {n a j : Nat} {c : mm_C} {z w : Int32} (h : mm_at mid pc = some (.getfield n, nx, aux, vv)) (hT : T[a]? = some c) (hj0 : aux % 100 = j) (hs : (aux == 5000 || aux == 5001) = false) (hc : (decide (c.1 < 13) && mm_dc c.1 (aux % 100) == aux / 100) = true) (hj : c.2.2[j]? = some (.int z)) (hw : I a j = w) (k : mm_Ev T X d mid nx ls (.int w :: st) I Q) : mm_Ev T X d mid pc ls (.ref a :: st) I Q := by
  subst hw; exact ev_gf h hT hj0 hs hc hj k
theorem ev_ialv {a N j : Nat} {i w : Int32} {rs : List Value} (h : mm_at mid pc = some (.iaload, nx, aux, vv)) (hT : T[a]? = some (100, N, rs)) (ha : a < 1000) (hj : i.toNatClampNeg = j) (hi : vp_in i N) (hw : I a j = w) (k : mm_Ev T X d mid nx ls (.int w :: st) I Q) : mm_Ev T X d mid pc ls (.int i :: .ref a :: st) I Q := by
  subst hw; exact ev_ial h hT ha hj hi k
end EVV
theorem ev_mono {T : List mm_C} {X : Nat × (Nat → Int32)} {d mid pc : Nat} {ls st : List Value} {I : mm_I} {P Q : Int32 → mm_I → Prop} (h : mm_Ev T X d mid pc ls st I (mm_pi P)) (k : ∀ v J, P v J → Q v J) : mm_Ev T X d mid pc ls st I (mm_pi Q) := by
  obtain ⟨n, r, J, h1, v, h2, h3⟩ := h
  exact ⟨n, r, J, h1, v, h2, k v J h3⟩
theorem wB_15 {k : Nat} (h1 : 1 ≤ k) (hk : k < 6) : wB 1 5 (nI k) = true := by
  rcases (show k = 1 ∨ k = 2 ∨ k = 3 ∨ k = 4 ∨ k = 5 by omega) with rfl | rfl | rfl | rfl | rfl <;> decide
/-- CV.error -/
theorem sp_error {X : Nat × (Nat → Int32)} {d : Nat} {I : mm_I} {e : Int32} {k : Nat} {P : Int32 → mm_I → Prop} (he : -1000000000 - e = nI k) (h1 : 1 ≤ k) (hk : k < 6) (hQ : P e (mm_up I 90 k (I 90 k + 1))) : mm_Ev mm_T0 X (d + 1) 116 0 (mm_ent 116 [.ref 0, .int e]) [] I (mm_pi P) := by
  show mm_Ev mm_T0 X (d + 1) 116 0 [.ref 0, .int e, .retAddr 0] [] I (mm_pi P)
  have t0 := tCV
  have t9 := t90
  refine ev_ldc_w k116_0 ?_
  refine ev_ild1 k116_3 ?_
  refine ev_isub k116_4 ?_
  rw [he]
  refine ev_ist2 k116_5 rfl ?_
  refine ev_ild2 k116_6 ?_
  refine ev_iconst k116_7 ?_
  refine ev_iconst k116_8 ?_
  refine ev_cS3i k116_9 cs_179 rfl rfl rfl ?_
  refine sp_isWithin ?_
  refine ev_ifz_eq k116_12 (fun h12 => Bool.noConfusion (Eq.trans (Eq.symm (wB_15 h1 hk)) h12)) (fun h12 => ?_)
  refine ev_ald0 k116_15 ?_
  refine ev_getr k116_16 (by first | assumption | rfl) rfl rfl rfl ?_
  refine ev_ild2 k116_19 ?_
  refine ev_dup2 k116_20 rfl rfl ?_
  refine ev_ial (j := k) k116_21 (by first | assumption | rfl) (by omega) (nI_clamp (by omega)) (vp_in_nI (show k < 6 by omega) (by omega)) ?_
  refine ev_iconst k116_22 ?_
  refine ev_iadd k116_23 ?_
  refine ev_ias (j := k) k116_24 (by first | assumption | rfl) (nI_clamp (by omega)) (vp_in_nI (show k < 6 by omega) (by omega)) ?_
  refine ev_ild1 k116_25 ?_
  refine ev_ri k116_26 rfl ?_
  exact hQ
/-- CV.isChair -/
theorem sp_cChair {X : Nat × (Nat → Int32)} {d : Nat} {I : mm_I} {v : Int32} {nc : Nat} {P : Int32 → mm_I → Prop} (h : I 11 1 = nI nc) (hQ : P (bI (wB 0 (nI nc - 1) v)) I) : mm_Ev mm_T0 X (d + 1) 126 0 (mm_ent 126 [.ref 0, .int v]) [] I (mm_pi P) := by
  show mm_Ev mm_T0 X (d + 1) 126 0 [.ref 0, .int v] [] I (mm_pi P)
  have t0 := tCV
  refine ev_ild1 k126_0 ?_
  refine ev_iconst k126_1 ?_
  refine ev_ald0 k126_2 ?_
  refine ev_getr k126_3 (by first | assumption | rfl) rfl rfl rfl ?_
  refine ev_gf (j := 1) k126_6 (by first | assumption | rfl) rfl rfl rfl rfl ?_
  rw [h]
  refine ev_iconst k126_9 ?_
  refine ev_isub k126_10 ?_
  refine ev_cS3i k126_11 cs_179 rfl rfl rfl ?_
  refine sp_isWithin ?_
  refine ev_rz k126_14 rfl (by first | exact bI01 _ | exact Or.inl rfl | exact Or.inr rfl | assumption) ?_
  exact hQ
/-- CV.isMember -/
theorem sp_cMember {X : Nat × (Nat → Int32)} {d : Nat} {I : mm_I} {v : Int32} {nc : Nat} {P : Int32 → mm_I → Prop} (h : I 11 7 = nI nc) (hQ : P (bI (wB 0 (nI nc - 1) v)) I) : mm_Ev mm_T0 X (d + 1) 127 0 (mm_ent 127 [.ref 0, .int v]) [] I (mm_pi P) := by
  show mm_Ev mm_T0 X (d + 1) 127 0 [.ref 0, .int v] [] I (mm_pi P)
  have t0 := tCV
  refine ev_ild1 k127_0 ?_
  refine ev_iconst k127_1 ?_
  refine ev_ald0 k127_2 ?_
  refine ev_getr k127_3 (by first | assumption | rfl) rfl rfl rfl ?_
  refine ev_gf (j := 7) k127_6 (by first | assumption | rfl) rfl rfl rfl rfl ?_
  rw [h]
  refine ev_iconst k127_9 ?_
  refine ev_isub k127_10 ?_
  refine ev_cS3i k127_11 cs_179 rfl rfl rfl ?_
  refine sp_isWithin ?_
  refine ev_rz k127_14 rfl (by first | exact bI01 _ | exact Or.inl rfl | exact Or.inr rfl | assumption) ?_
  exact hQ
theorem sm_cChair {X : Nat × (Nat → Int32)} {d : Nat} {I : mm_I} {P : Int32 → mm_I → Prop} {v : Int32} {nc : Nat} (h : I 92 2 = nI nc) (hQ : P (bI (wB 0 (nI nc - 1) v)) I) : mm_Ev mm_T0 X (d + 1) 142 0 (mm_ent 142 [.ref 91, .int v]) [] I (mm_pi P) := sm_isChair (by rw [h]; exact hQ)
theorem sm_cMember {X : Nat × (Nat → Int32)} {d : Nat} {I : mm_I} {P : Int32 → mm_I → Prop} {v : Int32} {nc : Nat} (h : I 92 3 = nI nc) (hQ : P (bI (wB 0 (nI nc - 1) v)) I) : mm_Ev mm_T0 X (d + 1) 143 0 (mm_ent 143 [.ref 91, .int v]) [] I (mm_pi P) := sm_isMember (by rw [h]; exact hQ)
theorem sm_ofv {X : Nat × (Nat → Int32)} {d : Nat} {I : mm_I} {P : Int32 → mm_I → Prop} {c w : Nat} {v : Int32} (hc : c < 6) (hw : w < 4) (hv : I 92 (7 + 4 * c + w) = v) (hQ : P v I) : mm_Ev mm_T0 X d 146 0 (mm_ent 146 [.ref 91, .int (nI c), .int (nI w)]) [] I (mm_pi P) := sm_of hc hw (by rw [hv]; exact hQ)
theorem sm_aboutv {X : Nat × (Nat → Int32)} {d : Nat} {I : mm_I} {P : Int32 → mm_I → Prop} {c w : Nat} {v : Int32} (hc : c < 6) (hw : w < 3) (hv : I 92 (31 + 3 * c + w) = v) (hQ : P v I) : mm_Ev mm_T0 X d 147 0 (mm_ent 147 [.ref 91, .int (nI c), .int (nI w)]) [] I (mm_pi P) := sm_about hc hw (by rw [hv]; exact hQ)
def ab (a : Nat) : Nat := if a = 4 then 1 else if a = 5 then 2 else if a = 6 then 3 else 0
def un : Nat → Nat → Nat → Bool
  | 0, _, _ => false
  | n + 1, a, w => if a = w then true else if a = 0 then false else un n (ab a) w
def unI (k w : Int32) : Bool := decide (w = 0) || decide (k = w) || (decide (w = 1) && decide (k = 4)) || (decide (w = 2) && decide (k = 5)) || (decide (w = 3) && decide (k = 6))
theorem un_I : ∀ k w : Fin 7, un 7 k.val w.val = unI (nI k.val) (nI w.val) := by decide +kernel
theorem ab_tbl : ∀ a : Fin 7, ([-1, 0, 0, 0, 1, 2, 3] : List Int32).getD (nI a.val).toNatClampNeg 0 = (if a.val = 0 then -1 else nI (ab a.val)) ∧ ab a.val < 7 := by decide +kernel
theorem wB_06 {a : Nat} (h : a < 7) : wB 0 6 (nI a) = true := by
  have z : ∀ a : Fin 7, wB 0 6 (nI a.val) = true := by decide +kernel
  exact z ⟨a, h⟩
theorem wB_m1 : wB 0 6 (-1) = false := by decide
theorem lp_un1 {X : Nat × (Nat → Int32)} {d : Nat} {I : mm_I} {k0 w0 : Int32} {i : Nat} {P : Int32 → mm_I → Prop} (hQ : P 0 I) (hi : i < 7) : mm_Ev mm_T0 X (d + 1) 129 4 [.int k0, .int w0, .int (-1), .int (nI (i + 1))] [] I (mm_pi P) := by
  refine ev_ild3 k129_4 ?_
  refine ev_bipush k129_5 ?_
  refine ev_jcmp_ge k129_7 (fun h7 => ?_) (fun h7 => ?_)
  ·
    refine ev_iconst k129_39 ?_
    refine ev_rz k129_40 rfl (by first | exact bI01 _ | exact Or.inl rfl | exact Or.inr rfl | assumption) ?_
    exact hQ
  ·
    refine ev_ild2 k129_10 ?_
    refine ev_iconst k129_11 ?_
    refine ev_bipush k129_12 ?_
    refine ev_cS3i k129_14 cs_179 rfl rfl rfl ?_
    refine sp_isWithin ?_
    refine ev_ifz_eq k129_17 (fun h17 => ?_) (fun h17 => Bool.noConfusion (Eq.trans (Eq.symm wB_m1) h17))
    refine ev_iconst k129_39 ?_
    refine ev_rz k129_40 rfl (by first | exact bI01 _ | exact Or.inl rfl | exact Or.inr rfl | assumption) ?_
    exact hQ
theorem lp_isUnder {X : Nat × (Nat → Int32)} {d : Nat} {I : mm_I} {k0 : Int32} {w : Nat} {P : Int32 → mm_I → Prop} (hw : w < 7) : ∀ (n i a : Nat), i + n = 7 → a < 7 → P (bI (un n a w)) I → mm_Ev mm_T0 X (d + 1) 129 4 [.int k0, .int (nI w), .int (nI a), .int (nI i)] [] I (mm_pi P) := by
  intro n
  induction n with
  | zero =>
    intro i a hi ha hQ
    have e : i = 7 := by omega
    subst e
    refine ev_ild3 k129_4 ?_
    refine ev_bipush k129_5 ?_
    rw [show (7 : Int32) = nI 7 from rfl]
    refine ev_jcmp_ge k129_7 (fun h7 => ?_) (fun h7 => absurd h7 (nI_nlt (Nat.le_refl _) (by omega)))
    refine ev_iconst k129_39 ?_
    refine ev_rz k129_40 rfl (by first | exact bI01 _ | exact Or.inl rfl | exact Or.inr rfl | assumption) ?_
    exact hQ
  | succ n ih =>
    intro i a hi ha hQ
    have hlt : i < 7 := by omega
    refine ev_ild3 k129_4 ?_
    refine ev_bipush k129_5 ?_
    rw [show (7 : Int32) = nI 7 from rfl]
    refine ev_jcmp_ge k129_7 (fun h7 => absurd (nI_lt hlt (by omega)) h7) (fun h7 => ?_)
    refine ev_ild2 k129_10 ?_
    refine ev_iconst k129_11 ?_
    refine ev_bipush k129_12 ?_
    refine ev_cS3i k129_14 cs_179 rfl rfl rfl ?_
    refine sp_isWithin ?_
    refine ev_ifz_eq k129_17 (fun h17 => Bool.noConfusion (Eq.trans (Eq.symm (wB_06 ha)) h17)) (fun h17 => ?_)
    refine ev_ild2 k129_20 ?_
    refine ev_ild1 k129_21 ?_
    refine ev_icmp_ne k129_22 (fun h22 => ?_) (fun h22 => ?_)
    ·
      refine ev_getstatic k129_27 ?_
      refine ev_ild2 k129_30 ?_
      refine ev_ialoadO k129_31 (by decide) rfl (show vp_in (nI a) 7 from vp_in_nI ha (by omega)) ?_
      rw [(ab_tbl ⟨a, ha⟩).1]
      refine ev_ist2 k129_32 rfl ?_
      refine ev_inc3 k129_33 rfl ?_
      refine ev_goto k129_36 ?_
      have e : ¬ a = w := fun z => h22 (by rw [z])
      rw [nI_1]
      by_cases a0 : a = 0
      · rw [if_pos (show (⟨a, ha⟩ : Fin 7).val = 0 from a0)]
        have e2 : un (n + 1) a w = false := by unfold un; rw [if_neg e, if_pos a0]
        rw [e2] at hQ
        exact lp_un1 hQ hlt
      · rw [if_neg (show ¬ (⟨a, ha⟩ : Fin 7).val = 0 from a0)]
        simp only [un, e, a0, if_false] at hQ
        exact ih (i + 1) (ab a) (by omega) (ab_tbl ⟨a, ha⟩).2 hQ
    ·
      refine ev_iconst k129_25 ?_
      refine ev_rz k129_26 rfl (by first | exact bI01 _ | exact Or.inl rfl | exact Or.inr rfl | assumption) ?_
      have e : a = w := (nI_eq (by omega) (by omega)).mp h22
      simp only [un, e, if_true] at hQ
      exact hQ
/-- CV.isUnder -/
theorem sp_isUnder {X : Nat × (Nat → Int32)} {d : Nat} {I : mm_I} {k w : Nat} {P : Int32 → mm_I → Prop} (hk : k < 7) (hw : w < 7) (hQ : P (bI (unI (nI k) (nI w))) I) : mm_Ev mm_T0 X (d + 1) 129 0 (mm_ent 129 [.int (nI k), .int (nI w)]) [] I (mm_pi P) := by
  show mm_Ev mm_T0 X (d + 1) 129 0 [.int (nI k), .int (nI w), .retAddr 0, .retAddr 0] [] I (mm_pi P)
  refine ev_ild0 k129_0 ?_
  refine ev_ist2 k129_1 rfl ?_
  refine ev_iconst k129_2 ?_
  refine ev_ist3 k129_3 rfl ?_
  rw [← un_I ⟨k, hk⟩ ⟨w, hw⟩] at hQ
  exact lp_isUnder hw 7 0 k rfl hk hQ
/-- Model.isUnder -/
theorem sm_isUnder {X : Nat × (Nat → Int32)} {d : Nat} {I : mm_I} {k w : Int32} {P : Int32 → mm_I → Prop} (hQ : P (bI (unI k w)) I) : mm_Ev mm_T0 X (d) 164 0 (mm_ent 164 [.int k, .int w]) [] I (mm_pi P) := by
  show mm_Ev mm_T0 X (d) 164 0 [.int k, .int w] [] I (mm_pi P)
  refine ev_ild1 k164_0 ?_
  refine ev_if_eq k164_1 (fun h1 => ?_) (fun h1 => ?_)
  ·
    refine ev_iconst k164_40 ?_
    refine ev_goto k164_41 ?_
    refine ev_rz k164_45 rfl (by first | exact bI01 _ | exact Or.inl rfl | exact Or.inr rfl | assumption) ?_
    have e : unI k w = true := by
      clear hQ
      simp_all [unI]
    rw [e] at hQ
    exact hQ
  ·
    refine ev_ild0 k164_4 ?_
    refine ev_ild1 k164_5 ?_
    refine ev_icmp_eq k164_6 (fun h6 => ?_) (fun h6 => ?_)
    ·
      refine ev_iconst k164_40 ?_
      refine ev_goto k164_41 ?_
      refine ev_rz k164_45 rfl (by first | exact bI01 _ | exact Or.inl rfl | exact Or.inr rfl | assumption) ?_
      have e : unI k w = true := by
        clear hQ
        simp_all [unI]
      rw [e] at hQ
      exact hQ
    ·
      refine ev_ild1 k164_9 ?_
      refine ev_iconst k164_10 ?_
      refine ev_icmp_ne k164_11 (fun h11 => ?_) (fun h11 => ?_)
      ·
        refine ev_ild1 k164_19 ?_
        refine ev_iconst k164_20 ?_
        refine ev_icmp_ne k164_21 (fun h21 => ?_) (fun h21 => ?_)
        ·
          refine ev_ild1 k164_29 ?_
          refine ev_iconst k164_30 ?_
          refine ev_icmp_ne k164_31 (fun h31 => ?_) (fun h31 => ?_)
          ·
            refine ev_iconst k164_44 ?_
            refine ev_rz k164_45 rfl (by first | exact bI01 _ | exact Or.inl rfl | exact Or.inr rfl | assumption) ?_
            have e : unI k w = false := by
              clear hQ
              simp_all [unI]
            rw [e] at hQ
            exact hQ
          ·
            refine ev_ild0 k164_34 ?_
            refine ev_bipush k164_35 ?_
            refine ev_icmp_ne k164_37 (fun h37 => ?_) (fun h37 => ?_)
            ·
              refine ev_iconst k164_44 ?_
              refine ev_rz k164_45 rfl (by first | exact bI01 _ | exact Or.inl rfl | exact Or.inr rfl | assumption) ?_
              have e : unI k w = false := by
                clear hQ
                simp_all [unI]
              rw [e] at hQ
              exact hQ
            ·
              refine ev_iconst k164_40 ?_
              refine ev_goto k164_41 ?_
              refine ev_rz k164_45 rfl (by first | exact bI01 _ | exact Or.inl rfl | exact Or.inr rfl | assumption) ?_
              have e : unI k w = true := by
                clear hQ
                simp_all [unI]
              rw [e] at hQ
              exact hQ
        ·
          refine ev_ild0 k164_24 ?_
          refine ev_iconst k164_25 ?_
          refine ev_icmp_eq k164_26 (fun h26 => ?_) (fun h26 => ?_)
          ·
            refine ev_iconst k164_40 ?_
            refine ev_goto k164_41 ?_
            refine ev_rz k164_45 rfl (by first | exact bI01 _ | exact Or.inl rfl | exact Or.inr rfl | assumption) ?_
            have e : unI k w = true := by
              clear hQ
              simp_all [unI]
            rw [e] at hQ
            exact hQ
          ·
            refine ev_ild1 k164_29 ?_
            refine ev_iconst k164_30 ?_
            refine ev_icmp_ne k164_31 (fun h31 => ?_) (fun h31 => ?_)
            ·
              refine ev_iconst k164_44 ?_
              refine ev_rz k164_45 rfl (by first | exact bI01 _ | exact Or.inl rfl | exact Or.inr rfl | assumption) ?_
              have e : unI k w = false := by
                clear hQ
                simp_all [unI]
              rw [e] at hQ
              exact hQ
            ·
              refine ev_ild0 k164_34 ?_
              refine ev_bipush k164_35 ?_
              refine ev_icmp_ne k164_37 (fun h37 => ?_) (fun h37 => ?_)
              ·
                refine ev_iconst k164_44 ?_
                refine ev_rz k164_45 rfl (by first | exact bI01 _ | exact Or.inl rfl | exact Or.inr rfl | assumption) ?_
                have e : unI k w = false := by
                  clear hQ
                  simp_all [unI]
                rw [e] at hQ
                exact hQ
              ·
                refine ev_iconst k164_40 ?_
                refine ev_goto k164_41 ?_
                refine ev_rz k164_45 rfl (by first | exact bI01 _ | exact Or.inl rfl | exact Or.inr rfl | assumption) ?_
                have e : unI k w = true := by
                  clear hQ
                  simp_all [unI]
                rw [e] at hQ
                exact hQ
      ·
        refine ev_ild0 k164_14 ?_
        refine ev_iconst k164_15 ?_
        refine ev_icmp_eq k164_16 (fun h16 => ?_) (fun h16 => ?_)
        ·
          refine ev_iconst k164_40 ?_
          refine ev_goto k164_41 ?_
          refine ev_rz k164_45 rfl (by first | exact bI01 _ | exact Or.inl rfl | exact Or.inr rfl | assumption) ?_
          have e : unI k w = true := by
            clear hQ
            simp_all [unI]
          rw [e] at hQ
          exact hQ
        ·
          refine ev_ild1 k164_19 ?_
          refine ev_iconst k164_20 ?_
          refine ev_icmp_ne k164_21 (fun h21 => ?_) (fun h21 => ?_)
          ·
            refine ev_ild1 k164_29 ?_
            refine ev_iconst k164_30 ?_
            refine ev_icmp_ne k164_31 (fun h31 => ?_) (fun h31 => ?_)
            ·
              refine ev_iconst k164_44 ?_
              refine ev_rz k164_45 rfl (by first | exact bI01 _ | exact Or.inl rfl | exact Or.inr rfl | assumption) ?_
              have e : unI k w = false := by
                clear hQ
                simp_all [unI]
              rw [e] at hQ
              exact hQ
            ·
              refine ev_ild0 k164_34 ?_
              refine ev_bipush k164_35 ?_
              refine ev_icmp_ne k164_37 (fun h37 => ?_) (fun h37 => ?_)
              ·
                refine ev_iconst k164_44 ?_
                refine ev_rz k164_45 rfl (by first | exact bI01 _ | exact Or.inl rfl | exact Or.inr rfl | assumption) ?_
                have e : unI k w = false := by
                  clear hQ
                  simp_all [unI]
                rw [e] at hQ
                exact hQ
              ·
                refine ev_iconst k164_40 ?_
                refine ev_goto k164_41 ?_
                refine ev_rz k164_45 rfl (by first | exact bI01 _ | exact Or.inl rfl | exact Or.inr rfl | assumption) ?_
                have e : unI k w = true := by
                  clear hQ
                  simp_all [unI]
                rw [e] at hQ
                exact hQ
          ·
            refine ev_ild0 k164_24 ?_
            refine ev_iconst k164_25 ?_
            refine ev_icmp_eq k164_26 (fun h26 => ?_) (fun h26 => ?_)
            ·
              refine ev_iconst k164_40 ?_
              refine ev_goto k164_41 ?_
              refine ev_rz k164_45 rfl (by first | exact bI01 _ | exact Or.inl rfl | exact Or.inr rfl | assumption) ?_
              have e : unI k w = true := by
                clear hQ
                simp_all [unI]
              rw [e] at hQ
              exact hQ
            ·
              refine ev_ild1 k164_29 ?_
              refine ev_iconst k164_30 ?_
              refine ev_icmp_ne k164_31 (fun h31 => ?_) (fun h31 => ?_)
              ·
                refine ev_iconst k164_44 ?_
                refine ev_rz k164_45 rfl (by first | exact bI01 _ | exact Or.inl rfl | exact Or.inr rfl | assumption) ?_
                have e : unI k w = false := by
                  clear hQ
                  simp_all [unI]
                rw [e] at hQ
                exact hQ
              ·
                refine ev_ild0 k164_34 ?_
                refine ev_bipush k164_35 ?_
                refine ev_icmp_ne k164_37 (fun h37 => ?_) (fun h37 => ?_)
                ·
                  refine ev_iconst k164_44 ?_
                  refine ev_rz k164_45 rfl (by first | exact bI01 _ | exact Or.inl rfl | exact Or.inr rfl | assumption) ?_
                  have e : unI k w = false := by
                    clear hQ
                    simp_all [unI]
                  rw [e] at hQ
                  exact hQ
                ·
                  refine ev_iconst k164_40 ?_
                  refine ev_goto k164_41 ?_
                  refine ev_rz k164_45 rfl (by first | exact bI01 _ | exact Or.inl rfl | exact Or.inr rfl | assumption) ?_
                  have e : unI k w = true := by
                    clear hQ
                    simp_all [unI]
                  rw [e] at hQ
                  exact hQ
/-- CV.textOf -/
theorem sp_textOf {X : Nat × (Nat → Int32)} {d : Nat} {I : mm_I} {u : Int32} {P : Nat → mm_I → Prop} (hQ : P (if u = 0 then 20 else 24) I) : mm_Ev mm_T0 X (d) 130 0 (mm_ent 130 [.ref 0, .int u]) [] I (mm_pr P) := by
  show mm_Ev mm_T0 X (d) 130 0 [.ref 0, .int u] [] I (mm_pr P)
  have t0 := tCV
  refine ev_ild1 k130_0 ?_
  refine ev_if_ne k130_1 (fun h1 => ?_) (fun h1 => ?_)
  ·
    refine ev_ald0 k130_14 ?_
    refine ev_getr k130_15 (by first | assumption | rfl) rfl rfl rfl ?_
    refine ev_getr k130_18 (by first | assumption | rfl) rfl rfl rfl ?_
    refine ev_rr k130_21 rfl ?_
    rw [if_neg h1] at hQ
    exact hQ
  ·
    refine ev_ald0 k130_4 ?_
    refine ev_getr k130_5 (by first | assumption | rfl) rfl rfl rfl ?_
    refine ev_getr k130_8 (by first | assumption | rfl) rfl rfl rfl ?_
    refine ev_goto k130_11 ?_
    refine ev_rr k130_21 rfl ?_
    rw [if_pos h1] at hQ
    exact hQ
