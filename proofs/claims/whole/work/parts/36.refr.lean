/-! The reference: to run -/
/-- the best so far, in the reference and in the class -/
def fbR (S : mm_I) (np : Nat) (r b cb cs : Int32) (i : Nat) : Prop := (b = -1 ∧ cb = 0 ∧ cs = -1 ∧ ∃ p, i ≤ p ∧ p < np ∧ iB r (nI p) = false) ∨ (∃ q : Nat, q < np ∧ b = nI q ∧ cb = nI q ∧ cs = S 6 q)
theorem spd {S : mm_I} {nc np p : Nat} (sr : sR S nc np) (h : p < np) : (-1 : Int32) < S 6 p := by
  obtain ⟨s, h0, hs, -, es, -⟩ := sr.2.1 p h
  rw [es]
  apply Int32.lt_iff_toInt_lt.mpr
  rw [nI_toInt (by omega)]
  have : (-1 : Int32).toInt = -1 := rfl
  omega
theorem fbR_step {S : mm_I} {np : Nat} {r b cb cs : Int32} {i : Nat} (sp : ∀ p, p < np → (-1 : Int32) < S 6 p) (hn6 : np ≤ 6) (hi : i < np) (h : fbR S np r b cb cs i) : (iB r (nI i) = true → fbR S np r b (hFs S 0 r i (cb, cs)).1 (hFs S 0 r i (cb, cs)).2 (i + 1)) ∧ (iB r (nI i) = false → b < 0 → fbR S np r (nI i) (hFs S 0 r i (cb, cs)).1 (hFs S 0 r i (cb, cs)).2 (i + 1)) ∧ (iB r (nI i) = false → ∀ q : Nat, b = nI q → q < np → S 6 q < S 6 i → fbR S np r (nI i) (hFs S 0 r i (cb, cs)).1 (hFs S 0 r i (cb, cs)).2 (i + 1)) ∧ (iB r (nI i) = false → ∀ q : Nat, b = nI q → q < np → ¬ S 6 q < S 6 i → fbR S np r b (hFs S 0 r i (cb, cs)).1 (hFs S 0 r i (cb, cs)).2 (i + 1)) := by
  refine ⟨fun ht => ?_, fun hf hb => ?_, fun hf q hb hq hl => ?_, fun hf q hb hq hl => ?_⟩
  · have e : hFs S 0 r i (cb, cs) = (cb, cs) := if_pos ht
    rw [e]
    rcases h with ⟨h1, h2, h3, p, h4, h5, h6⟩ | h
    · refine Or.inl ⟨h1, h2, h3, p, ?_, h5, h6⟩
      rcases Nat.lt_or_ge i p with z | z
      · omega
      · have : p = i := by omega
        rw [this, ht] at h6
        cases h6
    · exact Or.inr h
  · rcases h with ⟨h1, h2, h3, -⟩ | ⟨q, hq, h1, -⟩
    · have e : hFs S 0 r i (cb, cs) = (nI i, S 6 i) := by
        unfold hFs
        rw [if_neg (by rw [hf]; decide), if_pos (by show cs < S 6 i; rw [h3]; exact sp i hi)]
      rw [e]
      exact Or.inr ⟨i, hi, rfl, rfl, rfl⟩
    · rw [h1] at hb
      exact absurd hb (nI_pos (by omega))
  · rcases h with ⟨h1, -⟩ | ⟨q2, hq2, h1, h2, h3⟩
    · exact absurd (show nI q < 0 by rw [← hb, h1]; decide) (nI_pos (by omega))
    · have hqq : q = q2 := by
        have := hb.symm.trans h1
        exact (nI_eq (by omega) (by omega)).mp this
      subst hqq
      have e : hFs S 0 r i (cb, cs) = (nI i, S 6 i) := by
        unfold hFs
        rw [if_neg (by rw [hf]; decide), if_pos (by show cs < S 6 i; rw [h3]; exact hl)]
      rw [e]
      exact Or.inr ⟨i, hi, rfl, rfl, rfl⟩
  · rcases h with ⟨h1, -⟩ | ⟨q2, hq2, h1, h2, h3⟩
    · exact absurd (show nI q < 0 by rw [← hb, h1]; decide) (nI_pos (by omega))
    · have hqq : q = q2 := by
        have := hb.symm.trans h1
        exact (nI_eq (by omega) (by omega)).mp this
      subst hqq
      have e : hFs S 0 r i (cb, cs) = (cb, cs) := by
        unfold hFs
        rw [if_neg (by rw [hf]; decide), if_neg (by show ¬ cs < S 6 i; rw [h3]; exact hl)]
      rw [e]
      exact Or.inr ⟨q, hq, h1, h2, h3⟩
theorem hDs_a {S : mm_I} {p i : Nat} {t b z : Int32} (h : iB t (nI i) = true) : hDs S 0 p t i (b, z) = (b, z) := if_pos h
theorem hDs_b {S : mm_I} {p i : Nat} {t b z : Int32} (h : iB t (nI i) = false) (h1 : b = -1) : hDs S 0 p t i (b, z) = (nI i, hDz S 0 p i) := by
  unfold hDs
  rw [if_neg (by rw [h]; decide), if_pos h1]
theorem hDs_c {S : mm_I} {p i : Nat} {t b z : Int32} (h : iB t (nI i) = false) (h1 : ¬ b = -1) (h2 : z < hDz S 0 p i) : hDs S 0 p t i (b, z) = (nI i, hDz S 0 p i) := by
  unfold hDs
  rw [if_neg (by rw [h]; decide), if_neg h1, if_pos h2]
theorem hDs_d {S : mm_I} {p i : Nat} {t b z : Int32} (h : iB t (nI i) = false) (h1 : ¬ b = -1) (h2 : ¬ z < hDz S 0 p i) : hDs S 0 p t i (b, z) = (b, z) := by
  unfold hDs
  rw [if_neg (by rw [h]; decide), if_neg h1, if_neg h2]
theorem lm_fastest {X : Nat × (Nat → Int32)} {d : Nat} {I : mm_I} {S : mm_I} {nc np : Nat} {lf r : Int32} {P : Int32 → mm_I → Prop} (rm : RM S I nc np) (ok : hOK S 0 nc) (sp : ∀ p, p < np → (-1 : Int32) < S 6 p) (hlr : ∀ p, p < np → iB lf (nI p) = !(iB r (nI p)))  : ∀ (n i : Nat) (b : Int32) (cb : Int32) (cs : Int32) (v4 : Value), i + n = np → fbR S np r b cb cs i → P (fo (hFs S 0 r) n i (cb, cs)).1 I → mm_Ev mm_T0 X (d + 1) 189 4 [.ref 91, .int lf, .int b, .int (nI i), v4] [] I (mm_pi P) := by
  have tm := tM
  have tr := tR
  intro n
  induction n with
  | zero =>
    intro i b cb cs v4 hi hfb hQ
    have hnp := rm.1.2.2.2.1
    have hnc := rm.1.2.1
    have e : i = np := by omega
    subst e
    refine ev_ild3 k189_4 ?_
    refine ev_ald0 k189_5 ?_
    refine ev_getr k189_6 (by first | assumption | rfl) rfl rfl rfl ?_
    refine ev_iconst k189_9 ?_
    refine ev_ial (j := 3) k189_10 (by first | assumption | rfl) (by omega) rfl (vp_dec rfl) ?_
    rw [rm.1.2.2.1]
    refine ev_jcmp_ge k189_11 (fun h11 => ?_) (fun h11 => absurd h11 (nI_nlt (Nat.le_refl _) (by omega)))
    refine ev_ild2 k189_66 ?_
    refine ev_ri k189_67 rfl ?_
    rcases hfb with ⟨-, -, -, p, p1, p2, -⟩ | ⟨q, -, e1, e2, -⟩
    · omega
    · rw [e1, ← e2]; exact hQ
  | succ n ih =>
    intro i b cb cs v4 hi hfb hQ
    have hnp := rm.1.2.2.2.1
    have hnc := rm.1.2.1
    have hlt : i < np := by omega
    refine ev_ild3 k189_4 ?_
    refine ev_ald0 k189_5 ?_
    refine ev_getr k189_6 (by first | assumption | rfl) rfl rfl rfl ?_
    refine ev_iconst k189_9 ?_
    refine ev_ial (j := 3) k189_10 (by first | assumption | rfl) (by omega) rfl (vp_dec rfl) ?_
    rw [rm.1.2.2.1]
    refine ev_jcmp_ge k189_11 (fun h11 => absurd (nI_lt hlt (by omega)) h11) (fun h11 => ?_)
    refine ev_ild1 k189_14 ?_
    refine ev_ild3 k189_15 ?_
    refine ev_ishr k189_16 ?_
    refine ev_iconst k189_17 ?_
    refine ev_iand k189_18 ?_
    refine ev_iconst k189_19 ?_
    refine ev_icmp_ne k189_20 (fun h20 => ?_) (fun h20 => ?_)
    ·
      refine ev_iconst k189_46 ?_
      refine ev_ist4 k189_47 rfl ?_
      refine ev_ild4 k189_49 ?_
      refine ev_if_eq k189_51 (fun h51 => ?_) (fun h51 => ?_)
      ·
        refine ev_ild2 k189_58 ?_
        refine ev_ist2 k189_59 rfl ?_
        refine ev_inc3 k189_60 rfl ?_
        refine ev_goto k189_63 ?_
        rw [nI_1]
        have st := fbR_step sp hnp hlt hfb
        first | exact absurd rfl h51 | exact absurd h51 (by decide) | (refine ih (i + 1) _ _ _ _ (by omega) (st.2.1 hf h24) hQ) | (refine ih (i + 1) _ _ _ _ (by omega) (st.2.2.1 hf q rfl hq h39) hQ) | (refine ih (i + 1) _ _ _ _ (by omega) (st.2.2.2 hf q rfl hq h39) hQ) | (refine ih (i + 1) _ _ _ _ (by omega) (st.1 ?_) hQ; cases hh : iB r (nI i) with | true => rfl | false => exact absurd (of_decide_eq_true (show iB lf (nI i) = true by rw [hlr i hlt, hh]; rfl)) h20)
      ·
        refine ev_ild3 k189_54 ?_
        refine ev_goto k189_55 ?_
        refine ev_ist2 k189_59 rfl ?_
        refine ev_inc3 k189_60 rfl ?_
        refine ev_goto k189_63 ?_
        rw [nI_1]
        have st := fbR_step sp hnp hlt hfb
        first | exact absurd rfl h51 | exact absurd h51 (by decide) | (refine ih (i + 1) _ _ _ _ (by omega) (st.2.1 hf h24) hQ) | (refine ih (i + 1) _ _ _ _ (by omega) (st.2.2.1 hf q rfl hq h39) hQ) | (refine ih (i + 1) _ _ _ _ (by omega) (st.2.2.2 hf q rfl hq h39) hQ) | (refine ih (i + 1) _ _ _ _ (by omega) (st.1 ?_) hQ; cases hh : iB r (nI i) with | true => rfl | false => exact absurd (of_decide_eq_true (show iB lf (nI i) = true by rw [hlr i hlt, hh]; rfl)) h20)
    ·
      have hf : iB r (nI i) = false := by
        have z := hlr i hlt
        rw [show iB lf (nI i) = true from decide_eq_true h20] at z
        cases hh : iB r (nI i) with
        | false => rfl
        | true => rw [hh] at z; cases z
      refine ev_ild2 k189_23 ?_
      refine ev_if_lt k189_24 (fun h24 => ?_) (fun h24 => ?_)
      ·
        refine ev_iconst k189_42 ?_
        refine ev_goto k189_43 ?_
        refine ev_ist4 k189_47 rfl ?_
        refine ev_ild4 k189_49 ?_
        refine ev_if_eq k189_51 (fun h51 => ?_) (fun h51 => ?_)
        ·
          refine ev_ild2 k189_58 ?_
          refine ev_ist2 k189_59 rfl ?_
          refine ev_inc3 k189_60 rfl ?_
          refine ev_goto k189_63 ?_
          rw [nI_1]
          have st := fbR_step sp hnp hlt hfb
          first | exact absurd rfl h51 | exact absurd h51 (by decide) | (refine ih (i + 1) _ _ _ _ (by omega) (st.2.1 hf h24) hQ) | (refine ih (i + 1) _ _ _ _ (by omega) (st.2.2.1 hf q rfl hq h39) hQ) | (refine ih (i + 1) _ _ _ _ (by omega) (st.2.2.2 hf q rfl hq h39) hQ) | (refine ih (i + 1) _ _ _ _ (by omega) (st.1 ?_) hQ; cases hh : iB r (nI i) with | true => rfl | false => exact absurd (of_decide_eq_true (show iB lf (nI i) = true by rw [hlr i hlt, hh]; rfl)) h20)
        ·
          refine ev_ild3 k189_54 ?_
          refine ev_goto k189_55 ?_
          refine ev_ist2 k189_59 rfl ?_
          refine ev_inc3 k189_60 rfl ?_
          refine ev_goto k189_63 ?_
          rw [nI_1]
          have st := fbR_step sp hnp hlt hfb
          first | exact absurd rfl h51 | exact absurd h51 (by decide) | (refine ih (i + 1) _ _ _ _ (by omega) (st.2.1 hf h24) hQ) | (refine ih (i + 1) _ _ _ _ (by omega) (st.2.2.1 hf q rfl hq h39) hQ) | (refine ih (i + 1) _ _ _ _ (by omega) (st.2.2.2 hf q rfl hq h39) hQ) | (refine ih (i + 1) _ _ _ _ (by omega) (st.1 ?_) hQ; cases hh : iB r (nI i) with | true => rfl | false => exact absurd (of_decide_eq_true (show iB lf (nI i) = true by rw [hlr i hlt, hh]; rfl)) h20)
      ·
        refine ev_ald0 k189_27 ?_
        refine ev_ild3 k189_28 ?_
        refine ev_iconst k189_29 ?_
        refine ev_cV3i k189_30 cs_225 (by first | assumption | rfl) (by omega) (Nat.le_of_ble_eq_true rfl) rfl rfl rfl ?_
        refine sm_about (w := 0) (show i < 6 by omega) (by omega) ?_
        rw [show I 92 (31 + 3 * i + 0) = S 6 i from (rm.2.2.1 i hlt).1]
        obtain ⟨q, hq, hbq⟩ : ∃ q : Nat, q < np ∧ b = nI q := by
          rcases hfb with ⟨e1, -⟩ | ⟨q, hq, e1, -⟩
          · exact absurd (by rw [e1]; decide) h24
          · exact ⟨q, hq, e1⟩
        subst hbq
        refine ev_ald0 k189_33 ?_
        refine ev_ild2 k189_34 ?_
        refine ev_iconst k189_35 ?_
        refine ev_cV3i k189_36 cs_225 (by first | assumption | rfl) (by omega) (Nat.le_of_ble_eq_true rfl) rfl rfl rfl ?_
        refine sm_about (w := 0) (show q < 6 by omega) (by omega) ?_
        rw [show I 92 (31 + 3 * q + 0) = S 6 q from (rm.2.2.1 q hq).1]
        refine ev_jcmp_le k189_39 (fun h39 => ?_) (fun h39 => ?_)
        ·
          refine ev_iconst k189_46 ?_
          refine ev_ist4 k189_47 rfl ?_
          refine ev_ild4 k189_49 ?_
          refine ev_if_eq k189_51 (fun h51 => ?_) (fun h51 => ?_)
          ·
            refine ev_ild2 k189_58 ?_
            refine ev_ist2 k189_59 rfl ?_
            refine ev_inc3 k189_60 rfl ?_
            refine ev_goto k189_63 ?_
            rw [nI_1]
            have st := fbR_step sp hnp hlt hfb
            first | exact absurd rfl h51 | exact absurd h51 (by decide) | (refine ih (i + 1) _ _ _ _ (by omega) (st.2.1 hf h24) hQ) | (refine ih (i + 1) _ _ _ _ (by omega) (st.2.2.1 hf q rfl hq h39) hQ) | (refine ih (i + 1) _ _ _ _ (by omega) (st.2.2.2 hf q rfl hq h39) hQ) | (refine ih (i + 1) _ _ _ _ (by omega) (st.1 ?_) hQ; cases hh : iB r (nI i) with | true => rfl | false => exact absurd (of_decide_eq_true (show iB lf (nI i) = true by rw [hlr i hlt, hh]; rfl)) h20)
          ·
            refine ev_ild3 k189_54 ?_
            refine ev_goto k189_55 ?_
            refine ev_ist2 k189_59 rfl ?_
            refine ev_inc3 k189_60 rfl ?_
            refine ev_goto k189_63 ?_
            rw [nI_1]
            have st := fbR_step sp hnp hlt hfb
            first | exact absurd rfl h51 | exact absurd h51 (by decide) | (refine ih (i + 1) _ _ _ _ (by omega) (st.2.1 hf h24) hQ) | (refine ih (i + 1) _ _ _ _ (by omega) (st.2.2.1 hf q rfl hq h39) hQ) | (refine ih (i + 1) _ _ _ _ (by omega) (st.2.2.2 hf q rfl hq h39) hQ) | (refine ih (i + 1) _ _ _ _ (by omega) (st.1 ?_) hQ; cases hh : iB r (nI i) with | true => rfl | false => exact absurd (of_decide_eq_true (show iB lf (nI i) = true by rw [hlr i hlt, hh]; rfl)) h20)
        ·
          refine ev_iconst k189_42 ?_
          refine ev_goto k189_43 ?_
          refine ev_ist4 k189_47 rfl ?_
          refine ev_ild4 k189_49 ?_
          refine ev_if_eq k189_51 (fun h51 => ?_) (fun h51 => ?_)
          ·
            refine ev_ild2 k189_58 ?_
            refine ev_ist2 k189_59 rfl ?_
            refine ev_inc3 k189_60 rfl ?_
            refine ev_goto k189_63 ?_
            rw [nI_1]
            have st := fbR_step sp hnp hlt hfb
            first | exact absurd rfl h51 | exact absurd h51 (by decide) | (refine ih (i + 1) _ _ _ _ (by omega) (st.2.1 hf h24) hQ) | (refine ih (i + 1) _ _ _ _ (by omega) (st.2.2.1 hf q rfl hq h39) hQ) | (refine ih (i + 1) _ _ _ _ (by omega) (st.2.2.2 hf q rfl hq h39) hQ) | (refine ih (i + 1) _ _ _ _ (by omega) (st.1 ?_) hQ; cases hh : iB r (nI i) with | true => rfl | false => exact absurd (of_decide_eq_true (show iB lf (nI i) = true by rw [hlr i hlt, hh]; rfl)) h20)
          ·
            refine ev_ild3 k189_54 ?_
            refine ev_goto k189_55 ?_
            refine ev_ist2 k189_59 rfl ?_
            refine ev_inc3 k189_60 rfl ?_
            refine ev_goto k189_63 ?_
            rw [nI_1]
            have st := fbR_step sp hnp hlt hfb
            first | exact absurd rfl h51 | exact absurd h51 (by decide) | (refine ih (i + 1) _ _ _ _ (by omega) (st.2.1 hf h24) hQ) | (refine ih (i + 1) _ _ _ _ (by omega) (st.2.2.1 hf q rfl hq h39) hQ) | (refine ih (i + 1) _ _ _ _ (by omega) (st.2.2.2 hf q rfl hq h39) hQ) | (refine ih (i + 1) _ _ _ _ (by omega) (st.1 ?_) hQ; cases hh : iB r (nI i) with | true => rfl | false => exact absurd (of_decide_eq_true (show iB lf (nI i) = true by rw [hlr i hlt, hh]; rfl)) h20)
/-- Model.fastest -/
theorem sm_fastest {X : Nat × (Nat → Int32)} {d : Nat} {I : mm_I} {S : mm_I} {nc np : Nat} {lf r : Int32} {P : Int32 → mm_I → Prop} (rm : RM S I nc np) (ok : hOK S 0 nc) (sp : ∀ p, p < np → (-1 : Int32) < S 6 p) (hlr : ∀ p, p < np → iB lf (nI p) = !(iB r (nI p))) (hex : ∃ p, p < np ∧ iB r (nI p) = false) (hQ : P (hFb S 0 np r) I) : mm_Ev mm_T0 X (d + 1) 189 0 (mm_ent 189 [.ref 91, .int lf]) [] I (mm_pi P) := by
  show mm_Ev mm_T0 X (d + 1) 189 0 [.ref 91, .int lf, .retAddr 0, .retAddr 0, .retAddr 0] [] I (mm_pi P)
  refine ev_iconst k189_0 ?_
  refine ev_ist2 k189_1 rfl ?_
  refine ev_iconst k189_2 ?_
  refine ev_ist3 k189_3 rfl ?_
  obtain ⟨p, p1, p2⟩ := hex
  exact lm_fastest rm ok sp hlr np 0 (-1) 0 (-1) (.retAddr 0) (by omega) (Or.inl ⟨rfl, rfl, rfl, p, Nat.zero_le _, p1, p2⟩) hQ
/-- Model.zealOf -/
theorem sm_zealOf {X : Nat × (Nat → Int32)} {d : Nat} {I : mm_I} {S : mm_I} {nc np p c : Nat} {P : Int32 → mm_I → Prop} (rm : RM S I nc np) (ok : hOK S 0 nc) (sp : ∀ p, p < np → (-1 : Int32) < S 6 p) (tt : TR S I) (hp : p < np) (hc : c < nc) (hQ : ∀ J, sc I J → P (hDz S 0 p c) J) : mm_Ev mm_T0 X (d + 3) 190 0 (mm_ent 190 [.ref 91, .int (nI p), .int (nI c)]) [] I (mm_pi P) := by
  show mm_Ev mm_T0 X (d + 3) 190 0 [.ref 91, .int (nI p), .int (nI c)] [] I (mm_pi P)
  have tm := tM
  have tr := tR
  have hnp := rm.1.2.2.2.1
  refine ev_ald0 k190_0 ?_
  refine ev_iconst k190_1 ?_
  refine ev_ald0 k190_2 ?_
  refine ev_ild2 k190_3 ?_
  refine ev_ald0 k190_4 ?_
  refine ev_ild1 k190_5 ?_
  refine ev_iconst k190_6 ?_
  refine ev_cV3i k190_7 cs_225 (by first | assumption | rfl) (by omega) (Nat.le_of_ble_eq_true rfl) rfl rfl rfl ?_
  refine sm_about (w := 1) (show p < 6 by omega) (by omega) ?_
  rw [show I 92 (31 + 3 * p + 1) = S 7 p from (rm.2.2.1 p hp).2.1]
  refine ev_cV3i k190_10 cs_227 (by first | assumption | rfl) (by omega) (Nat.le_of_ble_eq_true rfl) rfl rfl rfl ?_
  refine sm_isFor rm hc ?_
  refine ev_ifz_eq k190_13 (fun h13 => ?_) (fun h13 => ?_)
  ·
    refine ev_iconst k190_20 ?_
    refine ev_ild2 k190_21 ?_
    refine ev_ald0 k190_22 ?_
    refine ev_ild1 k190_23 ?_
    refine ev_iconst k190_24 ?_
    refine ev_cV3i k190_25 cs_225 (by first | assumption | rfl) (by omega) (Nat.le_of_ble_eq_true rfl) rfl rfl rfl ?_
    refine sm_about (w := 0) (show p < 6 by omega) (by omega) ?_
    rw [show I 92 (31 + 3 * p + 0) = S 6 p from (rm.2.2.1 p hp).1]
    refine ev_cV5i k190_28 cs_231 (by first | assumption | rfl) (by omega) (Nat.le_of_ble_eq_true rfl) rfl rfl rfl ?_
    refine sm_gives1 ok tt (fun J hJ => ?_)
    refine ev_ri k190_31 rfl ?_
    have hw := hQ J hJ
    rw [show hDz S 0 p c = hZl S 0 (bI (hFor S 0 c (S 7 p))) (nI c) (S 6 p) from rfl, h13] at hw
    exact hw
  ·
    refine ev_iconst k190_16 ?_
    refine ev_goto k190_17 ?_
    refine ev_ild2 k190_21 ?_
    refine ev_ald0 k190_22 ?_
    refine ev_ild1 k190_23 ?_
    refine ev_iconst k190_24 ?_
    refine ev_cV3i k190_25 cs_225 (by first | assumption | rfl) (by omega) (Nat.le_of_ble_eq_true rfl) rfl rfl rfl ?_
    refine sm_about (w := 0) (show p < 6 by omega) (by omega) ?_
    rw [show I 92 (31 + 3 * p + 0) = S 6 p from (rm.2.2.1 p hp).1]
    refine ev_cV5i k190_28 cs_231 (by first | assumption | rfl) (by omega) (Nat.le_of_ble_eq_true rfl) rfl rfl rfl ?_
    refine sm_gives1 ok tt (fun J hJ => ?_)
    refine ev_ri k190_31 rfl ?_
    have hw := hQ J hJ
    rw [show hDz S 0 p c = hZl S 0 (bI (hFor S 0 c (S 7 p))) (nI c) (S 6 p) from rfl, h13] at hw
    exact hw
theorem lm_takes {X : Nat × (Nat → Int32)} {d : Nat} {S I0 : mm_I} {nc np p : Nat} {t : Int32} {P : Int32 → mm_I → Prop} (rm : RM S I0 nc np) (ok : hOK S 0 nc) (sp : ∀ p, p < np → (-1 : Int32) < S 6 p) (tt : TR S I0) (hp : p < np) (hQ : ∀ J, sc I0 J → P (hDt S 0 nc p t) J)  : ∀ (n i : Nat) (J : mm_I) (b : Int32) (z : Int32) (v6 : Value) (v7 : Value), i + n = nc → (v6.category = 1 ∧ sc I0 J ∧ (fo (hDs S 0 p t) n i (b, z)).1 = hDt S 0 nc p t) → mm_Ev mm_T0 X (d + 4) 191 8 [.ref 91, .int (nI p), .int t, .int b, .int z, .int (nI i), v6, v7] [] J (mm_pi P) := by
  have tm := tM
  have tr := tR
  intro n
  induction n with
  | zero =>
    intro i J b z v6 v7 hi hq
    have hnp := rm.1.2.2.2.1
    have hnc := rm.1.2.1
    have e : i = nc := by omega
    subst e
    refine ev_ild5 k191_8 ?_
    refine ev_ald0 k191_10 ?_
    refine ev_getr k191_11 (by first | assumption | rfl) rfl rfl rfl ?_
    refine ev_iconst k191_14 ?_
    refine ev_ial (j := 2) k191_15 (by first | assumption | rfl) (by omega) rfl (vp_dec rfl) ?_
    rw [show J 92 = I0 92 from hq.2.1 92 (by decide) (by decide), rm.1.1]
    refine ev_jcmp_ge k191_16 (fun h16 => ?_) (fun h16 => absurd h16 (nI_nlt (Nat.le_refl _) (by omega)))
    refine ev_ild3 k191_88 ?_
    refine ev_ri k191_89 rfl ?_
    rw [show b = hDt S 0 _ p t from hq.2.2]
    exact hQ J hq.2.1
  | succ n ih =>
    intro i J b z v6 v7 hi hq
    have hnp := rm.1.2.2.2.1
    have hnc := rm.1.2.1
    have hlt : i < nc := by omega
    refine ev_ild5 k191_8 ?_
    refine ev_ald0 k191_10 ?_
    refine ev_getr k191_11 (by first | assumption | rfl) rfl rfl rfl ?_
    refine ev_iconst k191_14 ?_
    refine ev_ial (j := 2) k191_15 (by first | assumption | rfl) (by omega) rfl (vp_dec rfl) ?_
    rw [show J 92 = I0 92 from hq.2.1 92 (by decide) (by decide), rm.1.1]
    refine ev_jcmp_ge k191_16 (fun h16 => absurd (nI_lt hlt (by omega)) h16) (fun h16 => ?_)
    refine ev_ild2 k191_19 ?_
    refine ev_ild5 k191_20 ?_
    refine ev_ishr k191_22 ?_
    refine ev_iconst k191_23 ?_
    refine ev_iand k191_24 ?_
    refine ev_if_ne k191_25 (fun h25 => ?_) (fun h25 => ?_)
    ·
      refine ev_inc5 k191_82 rfl ?_
      refine ev_goto k191_85 ?_
      rw [nI_1]
      have e2 : fo (hDs S 0 p t) (n + 1) i (b, z) = fo (hDs S 0 p t) n (i + 1) (hDs S 0 p t i (b, z)) := rfl
      first | exact absurd rfl h58 | exact absurd h58 (by decide) | exact absurd rfl h70 | exact absurd h70 (by decide) | (refine ih (i + 1) J _ _ _ _ (by omega) ⟨hq.1, hq.2.1, ?_⟩; rw [← hq.2.2, e2, hDs_a (iB_t h25)]) | (refine ih (i + 1) K _ _ _ _ (by omega) ⟨rfl, sc_tr hq.2.1 hK, ?_⟩; rw [← hq.2.2, e2, hDs_b (iB_f h25) h39]) | (refine ih (i + 1) K _ _ _ _ (by omega) ⟨rfl, sc_tr hq.2.1 hK, ?_⟩; rw [← hq.2.2, e2, hDs_c (iB_f h25) h39 h46]) | (refine ih (i + 1) K _ _ _ _ (by omega) ⟨rfl, sc_tr hq.2.1 hK, ?_⟩; rw [← hq.2.2, e2, hDs_d (iB_f h25) h39 h46])
    ·
      refine ev_ald0 k191_28 ?_
      refine ev_ild1 k191_29 ?_
      refine ev_ild5 k191_30 ?_
      refine ev_cV3i k191_32 cs_261 (by first | assumption | rfl) (by omega) (Nat.le_of_ble_eq_true rfl) rfl rfl rfl ?_
      refine sm_zealOf (RM_congr (hq.2.1 92 (by decide) (by decide)) rm) ok sp (TR_congr (hq.2.1 92 (by decide) (by decide)) tt) hp hlt (fun K hK => ?_)
      refine ev_ist6 k191_35 rfl ?_
      refine ev_ild3 k191_37 ?_
      refine ev_iconst k191_38 ?_
      refine ev_icmp_eq k191_39 (fun h39 => ?_) (fun h39 => ?_)
      ·
        refine ev_iconst k191_49 ?_
        refine ev_goto k191_50 ?_
        refine ev_ist7 k191_54 rfl ?_
        refine ev_ild7 k191_56 ?_
        refine ev_if_eq k191_58 (fun h58 => ?_) (fun h58 => ?_)
        ·
          refine ev_ild3 k191_66 ?_
          refine ev_ist3 k191_67 rfl ?_
          refine ev_ild7 k191_68 ?_
          refine ev_if_eq k191_70 (fun h70 => ?_) (fun h70 => ?_)
          ·
            refine ev_ild4 k191_78 ?_
            refine ev_ist4 k191_80 rfl ?_
            refine ev_inc5 k191_82 rfl ?_
            refine ev_goto k191_85 ?_
            rw [nI_1]
            have e2 : fo (hDs S 0 p t) (n + 1) i (b, z) = fo (hDs S 0 p t) n (i + 1) (hDs S 0 p t i (b, z)) := rfl
            first | exact absurd rfl h58 | exact absurd h58 (by decide) | exact absurd rfl h70 | exact absurd h70 (by decide) | (refine ih (i + 1) J _ _ _ _ (by omega) ⟨hq.1, hq.2.1, ?_⟩; rw [← hq.2.2, e2, hDs_a (iB_t h25)]) | (refine ih (i + 1) K _ _ _ _ (by omega) ⟨rfl, sc_tr hq.2.1 hK, ?_⟩; rw [← hq.2.2, e2, hDs_b (iB_f h25) h39]) | (refine ih (i + 1) K _ _ _ _ (by omega) ⟨rfl, sc_tr hq.2.1 hK, ?_⟩; rw [← hq.2.2, e2, hDs_c (iB_f h25) h39 h46]) | (refine ih (i + 1) K _ _ _ _ (by omega) ⟨rfl, sc_tr hq.2.1 hK, ?_⟩; rw [← hq.2.2, e2, hDs_d (iB_f h25) h39 h46])
          ·
            refine ev_ild6 k191_73 ?_
            refine ev_goto k191_75 ?_
            refine ev_ist4 k191_80 rfl ?_
            refine ev_inc5 k191_82 rfl ?_
            refine ev_goto k191_85 ?_
            rw [nI_1]
            have e2 : fo (hDs S 0 p t) (n + 1) i (b, z) = fo (hDs S 0 p t) n (i + 1) (hDs S 0 p t i (b, z)) := rfl
            first | exact absurd rfl h58 | exact absurd h58 (by decide) | exact absurd rfl h70 | exact absurd h70 (by decide) | (refine ih (i + 1) J _ _ _ _ (by omega) ⟨hq.1, hq.2.1, ?_⟩; rw [← hq.2.2, e2, hDs_a (iB_t h25)]) | (refine ih (i + 1) K _ _ _ _ (by omega) ⟨rfl, sc_tr hq.2.1 hK, ?_⟩; rw [← hq.2.2, e2, hDs_b (iB_f h25) h39]) | (refine ih (i + 1) K _ _ _ _ (by omega) ⟨rfl, sc_tr hq.2.1 hK, ?_⟩; rw [← hq.2.2, e2, hDs_c (iB_f h25) h39 h46]) | (refine ih (i + 1) K _ _ _ _ (by omega) ⟨rfl, sc_tr hq.2.1 hK, ?_⟩; rw [← hq.2.2, e2, hDs_d (iB_f h25) h39 h46])
        ·
          refine ev_ild5 k191_61 ?_
          refine ev_goto k191_63 ?_
          refine ev_ist3 k191_67 rfl ?_
          refine ev_ild7 k191_68 ?_
          refine ev_if_eq k191_70 (fun h70 => ?_) (fun h70 => ?_)
          ·
            refine ev_ild4 k191_78 ?_
            refine ev_ist4 k191_80 rfl ?_
            refine ev_inc5 k191_82 rfl ?_
            refine ev_goto k191_85 ?_
            rw [nI_1]
            have e2 : fo (hDs S 0 p t) (n + 1) i (b, z) = fo (hDs S 0 p t) n (i + 1) (hDs S 0 p t i (b, z)) := rfl
            first | exact absurd rfl h58 | exact absurd h58 (by decide) | exact absurd rfl h70 | exact absurd h70 (by decide) | (refine ih (i + 1) J _ _ _ _ (by omega) ⟨hq.1, hq.2.1, ?_⟩; rw [← hq.2.2, e2, hDs_a (iB_t h25)]) | (refine ih (i + 1) K _ _ _ _ (by omega) ⟨rfl, sc_tr hq.2.1 hK, ?_⟩; rw [← hq.2.2, e2, hDs_b (iB_f h25) h39]) | (refine ih (i + 1) K _ _ _ _ (by omega) ⟨rfl, sc_tr hq.2.1 hK, ?_⟩; rw [← hq.2.2, e2, hDs_c (iB_f h25) h39 h46]) | (refine ih (i + 1) K _ _ _ _ (by omega) ⟨rfl, sc_tr hq.2.1 hK, ?_⟩; rw [← hq.2.2, e2, hDs_d (iB_f h25) h39 h46])
          ·
            refine ev_ild6 k191_73 ?_
            refine ev_goto k191_75 ?_
            refine ev_ist4 k191_80 rfl ?_
            refine ev_inc5 k191_82 rfl ?_
            refine ev_goto k191_85 ?_
            rw [nI_1]
            have e2 : fo (hDs S 0 p t) (n + 1) i (b, z) = fo (hDs S 0 p t) n (i + 1) (hDs S 0 p t i (b, z)) := rfl
            first | exact absurd rfl h58 | exact absurd h58 (by decide) | exact absurd rfl h70 | exact absurd h70 (by decide) | (refine ih (i + 1) J _ _ _ _ (by omega) ⟨hq.1, hq.2.1, ?_⟩; rw [← hq.2.2, e2, hDs_a (iB_t h25)]) | (refine ih (i + 1) K _ _ _ _ (by omega) ⟨rfl, sc_tr hq.2.1 hK, ?_⟩; rw [← hq.2.2, e2, hDs_b (iB_f h25) h39]) | (refine ih (i + 1) K _ _ _ _ (by omega) ⟨rfl, sc_tr hq.2.1 hK, ?_⟩; rw [← hq.2.2, e2, hDs_c (iB_f h25) h39 h46]) | (refine ih (i + 1) K _ _ _ _ (by omega) ⟨rfl, sc_tr hq.2.1 hK, ?_⟩; rw [← hq.2.2, e2, hDs_d (iB_f h25) h39 h46])
      ·
        refine ev_ild6 k191_42 ?_
        refine ev_ild4 k191_44 ?_
        refine ev_jcmp_le k191_46 (fun h46 => ?_) (fun h46 => ?_)
        ·
          refine ev_iconst k191_53 ?_
          refine ev_ist7 k191_54 rfl ?_
          refine ev_ild7 k191_56 ?_
          refine ev_if_eq k191_58 (fun h58 => ?_) (fun h58 => ?_)
          ·
            refine ev_ild3 k191_66 ?_
            refine ev_ist3 k191_67 rfl ?_
            refine ev_ild7 k191_68 ?_
            refine ev_if_eq k191_70 (fun h70 => ?_) (fun h70 => ?_)
            ·
              refine ev_ild4 k191_78 ?_
              refine ev_ist4 k191_80 rfl ?_
              refine ev_inc5 k191_82 rfl ?_
              refine ev_goto k191_85 ?_
              rw [nI_1]
              have e2 : fo (hDs S 0 p t) (n + 1) i (b, z) = fo (hDs S 0 p t) n (i + 1) (hDs S 0 p t i (b, z)) := rfl
              first | exact absurd rfl h58 | exact absurd h58 (by decide) | exact absurd rfl h70 | exact absurd h70 (by decide) | (refine ih (i + 1) J _ _ _ _ (by omega) ⟨hq.1, hq.2.1, ?_⟩; rw [← hq.2.2, e2, hDs_a (iB_t h25)]) | (refine ih (i + 1) K _ _ _ _ (by omega) ⟨rfl, sc_tr hq.2.1 hK, ?_⟩; rw [← hq.2.2, e2, hDs_b (iB_f h25) h39]) | (refine ih (i + 1) K _ _ _ _ (by omega) ⟨rfl, sc_tr hq.2.1 hK, ?_⟩; rw [← hq.2.2, e2, hDs_c (iB_f h25) h39 h46]) | (refine ih (i + 1) K _ _ _ _ (by omega) ⟨rfl, sc_tr hq.2.1 hK, ?_⟩; rw [← hq.2.2, e2, hDs_d (iB_f h25) h39 h46])
            ·
              refine ev_ild6 k191_73 ?_
              refine ev_goto k191_75 ?_
              refine ev_ist4 k191_80 rfl ?_
              refine ev_inc5 k191_82 rfl ?_
              refine ev_goto k191_85 ?_
              rw [nI_1]
              have e2 : fo (hDs S 0 p t) (n + 1) i (b, z) = fo (hDs S 0 p t) n (i + 1) (hDs S 0 p t i (b, z)) := rfl
              first | exact absurd rfl h58 | exact absurd h58 (by decide) | exact absurd rfl h70 | exact absurd h70 (by decide) | (refine ih (i + 1) J _ _ _ _ (by omega) ⟨hq.1, hq.2.1, ?_⟩; rw [← hq.2.2, e2, hDs_a (iB_t h25)]) | (refine ih (i + 1) K _ _ _ _ (by omega) ⟨rfl, sc_tr hq.2.1 hK, ?_⟩; rw [← hq.2.2, e2, hDs_b (iB_f h25) h39]) | (refine ih (i + 1) K _ _ _ _ (by omega) ⟨rfl, sc_tr hq.2.1 hK, ?_⟩; rw [← hq.2.2, e2, hDs_c (iB_f h25) h39 h46]) | (refine ih (i + 1) K _ _ _ _ (by omega) ⟨rfl, sc_tr hq.2.1 hK, ?_⟩; rw [← hq.2.2, e2, hDs_d (iB_f h25) h39 h46])
          ·
            refine ev_ild5 k191_61 ?_
            refine ev_goto k191_63 ?_
            refine ev_ist3 k191_67 rfl ?_
            refine ev_ild7 k191_68 ?_
            refine ev_if_eq k191_70 (fun h70 => ?_) (fun h70 => ?_)
            ·
              refine ev_ild4 k191_78 ?_
              refine ev_ist4 k191_80 rfl ?_
              refine ev_inc5 k191_82 rfl ?_
              refine ev_goto k191_85 ?_
              rw [nI_1]
              have e2 : fo (hDs S 0 p t) (n + 1) i (b, z) = fo (hDs S 0 p t) n (i + 1) (hDs S 0 p t i (b, z)) := rfl
              first | exact absurd rfl h58 | exact absurd h58 (by decide) | exact absurd rfl h70 | exact absurd h70 (by decide) | (refine ih (i + 1) J _ _ _ _ (by omega) ⟨hq.1, hq.2.1, ?_⟩; rw [← hq.2.2, e2, hDs_a (iB_t h25)]) | (refine ih (i + 1) K _ _ _ _ (by omega) ⟨rfl, sc_tr hq.2.1 hK, ?_⟩; rw [← hq.2.2, e2, hDs_b (iB_f h25) h39]) | (refine ih (i + 1) K _ _ _ _ (by omega) ⟨rfl, sc_tr hq.2.1 hK, ?_⟩; rw [← hq.2.2, e2, hDs_c (iB_f h25) h39 h46]) | (refine ih (i + 1) K _ _ _ _ (by omega) ⟨rfl, sc_tr hq.2.1 hK, ?_⟩; rw [← hq.2.2, e2, hDs_d (iB_f h25) h39 h46])
            ·
              refine ev_ild6 k191_73 ?_
              refine ev_goto k191_75 ?_
              refine ev_ist4 k191_80 rfl ?_
              refine ev_inc5 k191_82 rfl ?_
              refine ev_goto k191_85 ?_
              rw [nI_1]
              have e2 : fo (hDs S 0 p t) (n + 1) i (b, z) = fo (hDs S 0 p t) n (i + 1) (hDs S 0 p t i (b, z)) := rfl
              first | exact absurd rfl h58 | exact absurd h58 (by decide) | exact absurd rfl h70 | exact absurd h70 (by decide) | (refine ih (i + 1) J _ _ _ _ (by omega) ⟨hq.1, hq.2.1, ?_⟩; rw [← hq.2.2, e2, hDs_a (iB_t h25)]) | (refine ih (i + 1) K _ _ _ _ (by omega) ⟨rfl, sc_tr hq.2.1 hK, ?_⟩; rw [← hq.2.2, e2, hDs_b (iB_f h25) h39]) | (refine ih (i + 1) K _ _ _ _ (by omega) ⟨rfl, sc_tr hq.2.1 hK, ?_⟩; rw [← hq.2.2, e2, hDs_c (iB_f h25) h39 h46]) | (refine ih (i + 1) K _ _ _ _ (by omega) ⟨rfl, sc_tr hq.2.1 hK, ?_⟩; rw [← hq.2.2, e2, hDs_d (iB_f h25) h39 h46])
        ·
          refine ev_iconst k191_49 ?_
          refine ev_goto k191_50 ?_
          refine ev_ist7 k191_54 rfl ?_
          refine ev_ild7 k191_56 ?_
          refine ev_if_eq k191_58 (fun h58 => ?_) (fun h58 => ?_)
          ·
            refine ev_ild3 k191_66 ?_
            refine ev_ist3 k191_67 rfl ?_
            refine ev_ild7 k191_68 ?_
            refine ev_if_eq k191_70 (fun h70 => ?_) (fun h70 => ?_)
            ·
              refine ev_ild4 k191_78 ?_
              refine ev_ist4 k191_80 rfl ?_
              refine ev_inc5 k191_82 rfl ?_
              refine ev_goto k191_85 ?_
              rw [nI_1]
              have e2 : fo (hDs S 0 p t) (n + 1) i (b, z) = fo (hDs S 0 p t) n (i + 1) (hDs S 0 p t i (b, z)) := rfl
              first | exact absurd rfl h58 | exact absurd h58 (by decide) | exact absurd rfl h70 | exact absurd h70 (by decide) | (refine ih (i + 1) J _ _ _ _ (by omega) ⟨hq.1, hq.2.1, ?_⟩; rw [← hq.2.2, e2, hDs_a (iB_t h25)]) | (refine ih (i + 1) K _ _ _ _ (by omega) ⟨rfl, sc_tr hq.2.1 hK, ?_⟩; rw [← hq.2.2, e2, hDs_b (iB_f h25) h39]) | (refine ih (i + 1) K _ _ _ _ (by omega) ⟨rfl, sc_tr hq.2.1 hK, ?_⟩; rw [← hq.2.2, e2, hDs_c (iB_f h25) h39 h46]) | (refine ih (i + 1) K _ _ _ _ (by omega) ⟨rfl, sc_tr hq.2.1 hK, ?_⟩; rw [← hq.2.2, e2, hDs_d (iB_f h25) h39 h46])
            ·
              refine ev_ild6 k191_73 ?_
              refine ev_goto k191_75 ?_
              refine ev_ist4 k191_80 rfl ?_
              refine ev_inc5 k191_82 rfl ?_
              refine ev_goto k191_85 ?_
              rw [nI_1]
              have e2 : fo (hDs S 0 p t) (n + 1) i (b, z) = fo (hDs S 0 p t) n (i + 1) (hDs S 0 p t i (b, z)) := rfl
              first | exact absurd rfl h58 | exact absurd h58 (by decide) | exact absurd rfl h70 | exact absurd h70 (by decide) | (refine ih (i + 1) J _ _ _ _ (by omega) ⟨hq.1, hq.2.1, ?_⟩; rw [← hq.2.2, e2, hDs_a (iB_t h25)]) | (refine ih (i + 1) K _ _ _ _ (by omega) ⟨rfl, sc_tr hq.2.1 hK, ?_⟩; rw [← hq.2.2, e2, hDs_b (iB_f h25) h39]) | (refine ih (i + 1) K _ _ _ _ (by omega) ⟨rfl, sc_tr hq.2.1 hK, ?_⟩; rw [← hq.2.2, e2, hDs_c (iB_f h25) h39 h46]) | (refine ih (i + 1) K _ _ _ _ (by omega) ⟨rfl, sc_tr hq.2.1 hK, ?_⟩; rw [← hq.2.2, e2, hDs_d (iB_f h25) h39 h46])
          ·
            refine ev_ild5 k191_61 ?_
            refine ev_goto k191_63 ?_
            refine ev_ist3 k191_67 rfl ?_
            refine ev_ild7 k191_68 ?_
            refine ev_if_eq k191_70 (fun h70 => ?_) (fun h70 => ?_)
            ·
              refine ev_ild4 k191_78 ?_
              refine ev_ist4 k191_80 rfl ?_
              refine ev_inc5 k191_82 rfl ?_
              refine ev_goto k191_85 ?_
              rw [nI_1]
              have e2 : fo (hDs S 0 p t) (n + 1) i (b, z) = fo (hDs S 0 p t) n (i + 1) (hDs S 0 p t i (b, z)) := rfl
              first | exact absurd rfl h58 | exact absurd h58 (by decide) | exact absurd rfl h70 | exact absurd h70 (by decide) | (refine ih (i + 1) J _ _ _ _ (by omega) ⟨hq.1, hq.2.1, ?_⟩; rw [← hq.2.2, e2, hDs_a (iB_t h25)]) | (refine ih (i + 1) K _ _ _ _ (by omega) ⟨rfl, sc_tr hq.2.1 hK, ?_⟩; rw [← hq.2.2, e2, hDs_b (iB_f h25) h39]) | (refine ih (i + 1) K _ _ _ _ (by omega) ⟨rfl, sc_tr hq.2.1 hK, ?_⟩; rw [← hq.2.2, e2, hDs_c (iB_f h25) h39 h46]) | (refine ih (i + 1) K _ _ _ _ (by omega) ⟨rfl, sc_tr hq.2.1 hK, ?_⟩; rw [← hq.2.2, e2, hDs_d (iB_f h25) h39 h46])
            ·
              refine ev_ild6 k191_73 ?_
              refine ev_goto k191_75 ?_
              refine ev_ist4 k191_80 rfl ?_
              refine ev_inc5 k191_82 rfl ?_
              refine ev_goto k191_85 ?_
              rw [nI_1]
              have e2 : fo (hDs S 0 p t) (n + 1) i (b, z) = fo (hDs S 0 p t) n (i + 1) (hDs S 0 p t i (b, z)) := rfl
              first | exact absurd rfl h58 | exact absurd h58 (by decide) | exact absurd rfl h70 | exact absurd h70 (by decide) | (refine ih (i + 1) J _ _ _ _ (by omega) ⟨hq.1, hq.2.1, ?_⟩; rw [← hq.2.2, e2, hDs_a (iB_t h25)]) | (refine ih (i + 1) K _ _ _ _ (by omega) ⟨rfl, sc_tr hq.2.1 hK, ?_⟩; rw [← hq.2.2, e2, hDs_b (iB_f h25) h39]) | (refine ih (i + 1) K _ _ _ _ (by omega) ⟨rfl, sc_tr hq.2.1 hK, ?_⟩; rw [← hq.2.2, e2, hDs_c (iB_f h25) h39 h46]) | (refine ih (i + 1) K _ _ _ _ (by omega) ⟨rfl, sc_tr hq.2.1 hK, ?_⟩; rw [← hq.2.2, e2, hDs_d (iB_f h25) h39 h46])
/-- Model.takes -/
theorem sm_takes {X : Nat × (Nat → Int32)} {d : Nat} {I : mm_I} {S : mm_I} {nc np p : Nat} {t : Int32} {P : Int32 → mm_I → Prop} (rm : RM S I nc np) (ok : hOK S 0 nc) (sp : ∀ p, p < np → (-1 : Int32) < S 6 p) (tt : TR S I) (hp : p < np) (hQ : ∀ J, sc I J → P (hDt S 0 nc p t) J) : mm_Ev mm_T0 X (d + 4) 191 0 (mm_ent 191 [.ref 91, .int (nI p), .int t]) [] I (mm_pi P) := by
  show mm_Ev mm_T0 X (d + 4) 191 0 [.ref 91, .int (nI p), .int t, .retAddr 0, .retAddr 0, .retAddr 0, .retAddr 0, .retAddr 0] [] I (mm_pi P)
  refine ev_iconst k191_0 ?_
  refine ev_ist3 k191_1 rfl ?_
  refine ev_iconst k191_2 ?_
  refine ev_ist4 k191_3 rfl ?_
  refine ev_iconst k191_5 ?_
  refine ev_ist5 k191_6 rfl ?_
  exact lm_takes rm ok sp tt hp hQ nc 0 I (-1) 0 (.retAddr 0) (.retAddr 0) (by omega) ⟨rfl, sc_rf I, rfl⟩
