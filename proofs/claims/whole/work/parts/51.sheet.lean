/-! Sheets -/
theorem t101 : mm_T0[101]? = some (aC 4) := rfl
theorem t102 : mm_T0[102]? = some (aC 4) := rfl
theorem t103 : mm_T0[103]? = some (aC 160) := rfl
theorem tS0 {s : Nat} (h : s < 4) : mm_T0[80 + 2 * s]? = some (rC (80 + 2 * s)) := by
  rcases (show s = 0 ∨ s = 1 ∨ s = 2 ∨ s = 3 by omega) with rfl | rfl | rfl | rfl <;> rfl
theorem tS1 {s : Nat} (h : s < 4) : mm_T0[80 + 2 * s + 1]? = some (aC 40) := by
  rcases (show s = 0 ∨ s = 1 ∨ s = 2 ∨ s = 3 by omega) with rfl | rfl | rfl | rfl <;> rfl
theorem tSa {s : Nat} (h : s < 4) : ([Value.ref 80, .ref 82, .ref 84, .ref 86] : List Value)[(nI s).toNatClampNeg]? = some (.ref (80 + 2 * s)) := by
  rw [nI_clamp (by omega)]
  rcases (show s = 0 ∨ s = 1 ∨ s = 2 ∨ s = 3 by omega) with rfl | rfl | rfl | rfl <;> rfl
theorem idxC (s j : Nat) : (40 : Int32) * nI s + nI j = nI (40 * s + j) := by
  rw [show (40 : Int32) = nI 40 from rfl, pk_mul, nI_add]
theorem Inv_sh {I L : mm_I} (inv : Inv I) (g : ∀ k, ¬ (80 ≤ k ∧ k ≤ 87) → k ≠ 101 → k ≠ 102 → k ≠ 103 → L k = I k) (sh : shR L) : Inv L := by
  obtain ⟨⟨nc, np, hs⟩, im, er, tr, -, cs⟩ := inv
  refine ⟨⟨nc, np, HS_congr (fun k hk _ _ _ => g _ (by omega) (by omega) (by omega) (by omega)) (fun j _ => by rw [g 92 (by omega) (by omega) (by omega) (by omega)]) hs⟩, ⟨?_, ?_⟩, ?_, ?_, sh, ?_⟩
  · rw [g 0 (by omega) (by omega) (by omega) (by omega), g 91 (by omega) (by omega) (by omega) (by omega)]; exact im.1
  · rw [g 0 (by omega) (by omega) (by omega) (by omega)]
    exact im.2.imp id (fun ⟨a, b, q⟩ => ⟨a, b, HS_congr (fun k hk _ _ _ => g _ (by omega) (by omega) (by omega) (by omega)) (fun j _ => by rw [g 93 (by omega) (by omega) (by omega) (by omega)]) q⟩)
  · unfold erR
    rw [g 90 (by omega) (by omega) (by omega) (by omega), g 95 (by omega) (by omega) (by omega) (by omega)]; exact er
  · unfold trR
    rw [g 1 (by omega) (by omega) (by omega) (by omega), g 2 (by omega) (by omega) (by omega) (by omega), g 91 (by omega) (by omega) (by omega) (by omega), g 100 (by omega) (by omega) (by omega) (by omega)]; exact tr
  · unfold csR
    rw [g 75 (by omega) (by omega) (by omega) (by omega), g 88 (by omega) (by omega) (by omega) (by omega), g (32 + 9) (by omega) (by omega) (by omega) (by omega), g (32 + 13) (by omega) (by omega) (by omega) (by omega), g (53 + 9) (by omega) (by omega) (by omega) (by omega), g (53 + 13) (by omega) (by omega) (by omega) (by omega)]; exact cs
/-- a number of a sheet is changed -/
theorem sh_put {I : mm_I} {s j : Nat} {w : Int32} (sh : shR I) (hs : s < 4) (hj : j < 40) : shR (mm_up (mm_up I (80 + 2 * s + 1) j w) 103 (40 * s + j) w) := by
  intro r hr
  obtain ⟨n, b, h1, h2, h3, h4, h5, h6, h7⟩ := sh r hr
  refine ⟨n, b, h1, h2, ?_, ?_, ?_, ?_, fun i hi => ?_⟩
  · rw [mm_up_ne _ _ _ _ _ (by omega), mm_up_ne _ _ _ _ _ (by omega)]; exact h3
  · rw [mm_up_ne _ _ _ _ _ (by omega), mm_up_ne _ _ _ _ _ (by omega)]; exact h4
  · rw [mm_up_ne _ _ _ _ _ (by omega), mm_up_ne _ _ _ _ _ (by omega)]; exact h5
  · rw [mm_up_ne _ _ _ _ _ (by omega), mm_up_ne _ _ _ _ _ (by omega)]; exact h6
  · rw [mm_up_ne _ _ _ _ _ (by omega), mm_up_at, mm_up_at, mm_up_ne _ _ _ _ _ (by omega)]
    by_cases e : r = s ∧ i = j
    · rw [if_pos (by omega), if_pos (by omega)]
    · rw [if_neg (by omega), if_neg (by omega)]; exact h7 i hi
theorem nbits {v : Int32} (h : (decide (v = 0) || decide (v = 8) || decide (v = 16) || decide (v = 32)) = false) : ¬ v = 0 ∧ ¬ v = 8 ∧ ¬ v = 16 ∧ ¬ v = 32 := by
  simp only [Bool.or_eq_false_iff, decide_eq_false_iff_not] at h
  exact ⟨h.1.1.1, h.1.1.2, h.1.2, h.2⟩
theorem ybits {v : Int32} (h : (decide (v = 0) || decide (v = 8) || decide (v = 16) || decide (v = 32)) = true) : v = 0 ∨ v = 8 ∨ v = 16 ∨ v = 32 := by
  simp only [Bool.or_eq_true, decide_eq_true_eq] at h
  rcases h with ((h | h) | h) | h
  · exact Or.inl h
  · exact Or.inr (Or.inl h)
  · exact Or.inr (Or.inr (Or.inl h))
  · exact Or.inr (Or.inr (Or.inr h))
/-- CV.isMissing -/
theorem sp_isMissing {X : Nat × (Nat → Int32)} {d : Nat} {I : mm_I} {s : Nat} {b : Int32} {P : Int32 → mm_I → Prop} (hs : s < 4) (hb : I (80 + 2 * s) 1 = b) (hQ : P (bI (decide (b = 0))) I) : mm_Ev mm_T0 X (d) 128 0 (mm_ent 128 [.ref 0, .int (nI s)]) [] I (mm_pi P) := by
  show mm_Ev mm_T0 X (d) 128 0 [.ref 0, .int (nI s)] [] I (mm_pi P)
  have t0 := tCV
  have ts := tS0 hs
  refine ev_ald0 k128_0 ?_
  refine ev_getr k128_1 (by first | assumption | rfl) rfl rfl rfl ?_
  refine ev_ild1 k128_4 ?_
  refine ev_aaload k128_5 (by first | assumption | rfl) (by decide) (vp_in_nI (show s < 4 by omega) (by decide)) (tSa hs) ?_
  refine ev_gfv (j := 1) k128_6 (by first | assumption | rfl) rfl rfl rfl rfl hb ?_
  refine ev_if_ne k128_9 (fun h9 => ?_) (fun h9 => ?_)
  ·
    refine ev_iconst k128_16 ?_
    refine ev_rz k128_17 rfl (by first | exact bI01 _ | exact Or.inl rfl | exact Or.inr rfl | assumption) ?_
    rw [decide_eq_false h9] at hQ
    exact hQ
  ·
    refine ev_iconst k128_12 ?_
    refine ev_goto k128_13 ?_
    refine ev_rz k128_17 rfl (by first | exact bI01 _ | exact Or.inl rfl | exact Or.inr rfl | assumption) ?_
    rw [decide_eq_true h9] at hQ
    exact hQ
/-- Model.notThere -/
theorem sm_nt1 {X : Nat × (Nat → Int32)} {d : Nat} {I : mm_I} {v : Int32} {P : Int32 → mm_I → Prop} (h : wB 0 3 v = false) (hQ : P (-1000000001) I) : mm_Ev mm_T0 X (d + 2) 231 0 (mm_ent 231 [.ref 91, .int v]) [] I (mm_pi P) := by
  show mm_Ev mm_T0 X (d + 2) 231 0 [.ref 91, .int v] [] I (mm_pi P)
  have tm := tM
  have tr := tR
  refine ev_ild1 k231_0 ?_
  refine ev_cS1i k231_1 cs_273 rfl rfl rfl ?_
  refine sm_isSheet ?_
  refine ev_ifz_ne k231_4 (fun h4 => Bool.noConfusion (Eq.trans (Eq.symm h) h4)) (fun h4 => ?_)
  refine ev_ldc k231_7 ?_
  refine ev_goto k231_9 ?_
  refine ev_ri k231_27 rfl ?_
  exact hQ
/-- Model.notThere -/
theorem sm_nt2 {X : Nat × (Nat → Int32)} {d : Nat} {I : mm_I} {s : Nat} {b : Int32} {P : Int32 → mm_I → Prop} (h : wB 0 3 (nI s) = true) (hs : s < 4) (hb : I 101 s = b) (h0 : b = 0) (hQ : P (-1000000002) I) : mm_Ev mm_T0 X (d + 2) 231 0 (mm_ent 231 [.ref 91, .int (nI s)]) [] I (mm_pi P) := by
  show mm_Ev mm_T0 X (d + 2) 231 0 [.ref 91, .int (nI s)] [] I (mm_pi P)
  have tm := tM
  have tr := tR
  have q1 := t101
  have q2 := t102
  have q3 := t103
  refine ev_ild1 k231_0 ?_
  refine ev_cS1i k231_1 cs_273 rfl rfl rfl ?_
  refine sm_isSheet ?_
  refine ev_ifz_ne k231_4 (fun h4 => ?_) (fun h4 => Bool.noConfusion (Eq.trans (Eq.symm h) h4))
  refine ev_ald0 k231_12 ?_
  refine ev_getr k231_13 (by first | assumption | rfl) rfl rfl rfl ?_
  refine ev_ild1 k231_16 ?_
  refine ev_ialv (j := s) k231_17 (by first | assumption | rfl) (by omega) (nI_clamp (by omega)) (vp_in_nI (show s < 4 by omega) (by decide)) hb ?_
  refine ev_if_ne k231_18 (fun h18 => absurd h0 h18) (fun h18 => ?_)
  refine ev_ldc k231_21 ?_
  refine ev_goto k231_23 ?_
  refine ev_ri k231_27 rfl ?_
  exact hQ
/-- Model.notThere -/
theorem sm_nt3 {X : Nat × (Nat → Int32)} {d : Nat} {I : mm_I} {s : Nat} {b : Int32} {P : Int32 → mm_I → Prop} (h : wB 0 3 (nI s) = true) (hs : s < 4) (hb : I 101 s = b) (h0 : ¬ b = 0) (hQ : P 0 I) : mm_Ev mm_T0 X (d + 2) 231 0 (mm_ent 231 [.ref 91, .int (nI s)]) [] I (mm_pi P) := by
  show mm_Ev mm_T0 X (d + 2) 231 0 [.ref 91, .int (nI s)] [] I (mm_pi P)
  have tm := tM
  have tr := tR
  have q1 := t101
  have q2 := t102
  have q3 := t103
  refine ev_ild1 k231_0 ?_
  refine ev_cS1i k231_1 cs_273 rfl rfl rfl ?_
  refine sm_isSheet ?_
  refine ev_ifz_ne k231_4 (fun h4 => ?_) (fun h4 => Bool.noConfusion (Eq.trans (Eq.symm h) h4))
  refine ev_ald0 k231_12 ?_
  refine ev_getr k231_13 (by first | assumption | rfl) rfl rfl rfl ?_
  refine ev_ild1 k231_16 ?_
  refine ev_ialv (j := s) k231_17 (by first | assumption | rfl) (by omega) (nI_clamp (by omega)) (vp_in_nI (show s < 4 by omega) (by decide)) hb ?_
  refine ev_if_ne k231_18 (fun h18 => ?_) (fun h18 => absurd h18 h0)
  refine ev_iconst k231_26 ?_
  refine ev_ri k231_27 rfl ?_
  exact hQ
/-- CV.put -/
theorem op_put {X : Nat × (Nat → Int32)} {d : Nat} {I : mm_I} {P : Int32 → mm_I → Prop} {a : Int32} {b : Int32} {e : Int32} (inv : Inv I) (hQ : ∀ v J, mm_Ev mm_T0 X (d + 60) 232 0 (mm_ent 232 [.ref 91, .int a, .int b, .int e]) [] J (mm_pi fun w K => w = v ∧ Inv K) → P v J) : mm_Ev mm_T0 X (d + 60) 106 0 (mm_ent 106 [.ref 0, .int a, .int b, .int e]) [] I (mm_pi P) := by
  show mm_Ev mm_T0 X (d + 60) 106 0 [.ref 0, .int a, .int b, .int e] [] I (mm_pi P)
  obtain ⟨nc, np, hs⟩ := inv.1
  obtain ⟨c1, n6, p1, p6, rc, rp, rm, ok, sr, tt⟩ := hsF hs
  have t0 := tCV
  have tm := tM
  have tr := tR
  have q1 := t101
  have q2 := t102
  have q3 := t103
  refine ev_ild1 k106_0 ?_
  refine ev_cS1i k106_1 cs_206 rfl rfl rfl ?_
  refine sp_isSheet ?_
  refine ev_ifz_ne k106_4 (fun h4 => ?_) (fun h4 => ?_)
  ·
    obtain ⟨s, hs4, rfl⟩ := wB_le (hi := 3) (by omega) h4
    replace hs4 : s < 4 := by omega
    obtain ⟨ln, bn, hln, hbn, c1, c2, c3, c4, c5⟩ := inv.2.2.2.2.1 s hs4
    have ts0 := tS0 hs4
    have ts1 := tS1 hs4
    refine ev_ald0 k106_14 ?_
    refine ev_ild1 k106_15 ?_
    refine ev_cV2i k106_16 cs_218 (by first | assumption | rfl) (by omega) (Nat.le_of_ble_eq_true rfl) rfl rfl rfl ?_
    refine sp_isMissing hs4 c1 ?_
    refine ev_ifz_eq k106_19 (fun h19 => ?_) (fun h19 => ?_)
    ·
      refine ev_ald0 k106_29 ?_
      refine ev_getr k106_30 (by first | assumption | rfl) rfl rfl rfl ?_
      refine ev_ild1 k106_33 ?_
      refine ev_aaload k106_34 (by first | assumption | rfl) (by decide) (vp_in_nI (show s < 4 by omega) (by decide)) (tSa hs4) ?_
      refine ev_ild2 k106_35 ?_
      refine ev_cV2i k106_36 cs_214 (by first | assumption | rfl) (by omega) (Nat.le_of_ble_eq_true rfl) rfl rfl rfl ?_
      refine sp_hasv (n := ln) ts0 c3 (by omega) ?_
      refine ev_ifz_ne k106_39 (fun h39 => ?_) (fun h39 => ?_)
      ·
        obtain ⟨j, hj, rfl⟩ := wB_in (n := ln) (by omega) h39
        refine ev_ald0 k106_49 ?_
        refine ev_getr k106_50 (by first | assumption | rfl) rfl rfl rfl ?_
        refine ev_ild1 k106_53 ?_
        refine ev_aaload k106_54 (by first | assumption | rfl) (by decide) (vp_in_nI (show s < 4 by omega) (by decide)) (tSa hs4) ?_
        refine ev_ild2 k106_55 ?_
        refine ev_ild3 k106_56 ?_
        refine ev_cV3v k106_57 cs_219 (by first | assumption | rfl) (by omega) (Nat.le_of_ble_eq_true rfl) rfl rfl rfl ?_
        refine sp_set (n := ln) ts0 ts1 (by omega) c3 hln (by decide) ?_
        rw [if_pos (inB_of hj (by omega)), nI_clamp (by omega), c1]
        refine ev_iconst k106_60 ?_
        refine ev_ri k106_61 rfl ?_
        refine hQ _ _ ?_
        show mm_Ev mm_T0 X (d + 60) 232 0 [.ref 91, .int _, .int _, .int _, .retAddr 0] [] _ (mm_pi _)
        refine ev_ald0 k232_0 ?_
        refine ev_ild1 k232_1 ?_
        refine ev_cV2i k232_2 cs_288 (by first | assumption | rfl) (by omega) (Nat.le_of_ble_eq_true rfl) rfl rfl rfl ?_
        refine sm_nt3 h4 hs4 (show _ = _ from (congrFun (mm_up_ne _ _ _ _ _ (by omega)) s).trans c2) (of_decide_eq_false h19) ?_
        refine ev_ist4 k232_5 rfl ?_
        refine ev_ild4 k232_7 ?_
        refine ev_if_ne k232_9 (fun g9 => absurd rfl g9) (fun g9 => ?_)
        refine ev_ild2 k232_12 ?_
        refine ev_iconst k232_13 ?_
        refine ev_ald0 k232_14 ?_
        refine ev_getr k232_15 (by first | assumption | rfl) rfl rfl rfl ?_
        refine ev_ild1 k232_18 ?_
        refine ev_ialv (j := s) k232_19 (by first | assumption | rfl) (by omega) (nI_clamp (by omega)) (vp_in_nI (show s < 4 by omega) (by decide)) ((congrFun (mm_up_ne _ _ _ _ _ (by omega)) s).trans c4) ?_
        refine ev_iconst k232_20 ?_
        refine ev_isub k232_21 ?_
        refine ev_cS3i k232_22 cs_224 rfl rfl rfl ?_
        refine sp_in ?_
        refine ev_ifz_ne k232_25 (fun g25 => ?_) (fun g25 => Bool.noConfusion (Eq.trans (Eq.symm h39) g25))
        refine ev_ild4 k232_33 ?_
        refine ev_ist4 k232_35 rfl ?_
        refine ev_ild4 k232_37 ?_
        refine ev_if_eq k232_39 (fun g39 => ?_) (fun g39 => absurd rfl g39)
        refine ev_ald0 k232_49 ?_
        refine ev_getr k232_50 (by first | assumption | rfl) rfl rfl rfl ?_
        refine ev_bipush k232_53 ?_
        refine ev_ild1 k232_55 ?_
        refine ev_imul k232_56 ?_
        refine ev_ild2 k232_57 ?_
        refine ev_iadd k232_58 ?_
        rw [idxC]
        refine ev_ald0 k232_59 ?_
        refine ev_getr k232_60 (by first | assumption | rfl) rfl rfl rfl ?_
        refine ev_ild1 k232_63 ?_
        refine ev_ialv (j := s) k232_64 (by first | assumption | rfl) (by omega) (nI_clamp (by omega)) (vp_in_nI (show s < 4 by omega) (by decide)) ((congrFun (mm_up_ne _ _ _ _ _ (by omega)) s).trans c2) ?_
        refine ev_bipush k232_65 ?_
        refine ev_icmp_ne k232_67 (fun g67 => ?_) (fun g67 => ?_)
        ·
          refine ev_ald0 k232_75 ?_
          refine ev_getr k232_76 (by first | assumption | rfl) rfl rfl rfl ?_
          refine ev_ild1 k232_79 ?_
          refine ev_ialv (j := s) k232_80 (by first | assumption | rfl) (by omega) (nI_clamp (by omega)) (vp_in_nI (show s < 4 by omega) (by decide)) ((congrFun (mm_up_ne _ _ _ _ _ (by omega)) s).trans c2) ?_
          refine ev_bipush k232_81 ?_
          refine ev_icmp_ne k232_83 (fun g83 => ?_) (fun g83 => ?_)
          ·
            refine ev_ild3 k232_91 ?_
            refine ev_ias (j := (40 * s + j)) k232_92 (by first | assumption | rfl) (nI_clamp (by omega)) (vp_in_nI (show 40 * s + j < 160 by omega) (by omega)) ?_
            refine ev_iconst k232_93 ?_
            refine ev_ri k232_94 rfl ?_
            have ec : cut (nI bn) e = e := by unfold cut; rw [if_neg g67, if_neg g83]
            rw [ec]
            refine ⟨rfl, Inv_sh inv (fun k h1 h2 h3 h4 => ?_) (sh_put inv.2.2.2.2.1 hs4 (by omega))⟩
            rw [mm_up_ne _ _ _ _ _ (by omega), mm_up_ne _ _ _ _ _ (by omega)]
          ·
            refine ev_ild3 k232_86 ?_
            refine ev_i2s k232_87 ?_
            refine ev_goto k232_88 ?_
            refine ev_ias (j := (40 * s + j)) k232_92 (by first | assumption | rfl) (nI_clamp (by omega)) (vp_in_nI (show 40 * s + j < 160 by omega) (by omega)) ?_
            refine ev_iconst k232_93 ?_
            refine ev_ri k232_94 rfl ?_
            have ec : cut (nI bn) e = e.toInt16.toInt32 := by unfold cut; rw [if_neg g67, if_pos g83]
            rw [ec]
            refine ⟨rfl, Inv_sh inv (fun k h1 h2 h3 h4 => ?_) (sh_put inv.2.2.2.2.1 hs4 (by omega))⟩
            rw [mm_up_ne _ _ _ _ _ (by omega), mm_up_ne _ _ _ _ _ (by omega)]
        ·
          refine ev_ild3 k232_70 ?_
          refine ev_i2b k232_71 ?_
          refine ev_goto k232_72 ?_
          refine ev_ias (j := (40 * s + j)) k232_92 (by first | assumption | rfl) (nI_clamp (by omega)) (vp_in_nI (show 40 * s + j < 160 by omega) (by omega)) ?_
          refine ev_iconst k232_93 ?_
          refine ev_ri k232_94 rfl ?_
          have ec : cut (nI bn) e = e.toInt8.toInt32 := by unfold cut; rw [if_pos g67]
          rw [ec]
          refine ⟨rfl, Inv_sh inv (fun k h1 h2 h3 h4 => ?_) (sh_put inv.2.2.2.2.1 hs4 (by omega))⟩
          rw [mm_up_ne _ _ _ _ _ (by omega), mm_up_ne _ _ _ _ _ (by omega)]
      ·
        refine ev_ald0 k106_42 ?_
        refine ev_ldc k106_43 ?_
        refine ev_cV2i k106_45 cs_174 (by first | assumption | rfl) (by omega) (Nat.le_of_ble_eq_true rfl) rfl rfl rfl ?_
        refine sp_error (k := 1) (by decide) (by decide) (by decide) ?_
        refine ev_ri k106_48 rfl ?_
        refine hQ _ _ ?_
        show mm_Ev mm_T0 X (d + 60) 232 0 [.ref 91, .int _, .int _, .int _, .retAddr 0] [] _ (mm_pi _)
        refine ev_ald0 k232_0 ?_
        refine ev_ild1 k232_1 ?_
        refine ev_cV2i k232_2 cs_288 (by first | assumption | rfl) (by omega) (Nat.le_of_ble_eq_true rfl) rfl rfl rfl ?_
        refine sm_nt3 h4 hs4 (show _ = _ from c2) (of_decide_eq_false h19) ?_
        refine ev_ist4 k232_5 rfl ?_
        refine ev_ild4 k232_7 ?_
        refine ev_if_ne k232_9 (fun g9 => absurd rfl g9) (fun g9 => ?_)
        refine ev_ild2 k232_12 ?_
        refine ev_iconst k232_13 ?_
        refine ev_ald0 k232_14 ?_
        refine ev_getr k232_15 (by first | assumption | rfl) rfl rfl rfl ?_
        refine ev_ild1 k232_18 ?_
        refine ev_ialv (j := s) k232_19 (by first | assumption | rfl) (by omega) (nI_clamp (by omega)) (vp_in_nI (show s < 4 by omega) (by decide)) c4 ?_
        refine ev_iconst k232_20 ?_
        refine ev_isub k232_21 ?_
        refine ev_cS3i k232_22 cs_224 rfl rfl rfl ?_
        refine sp_in ?_
        refine ev_ifz_ne k232_25 (fun g25 => Bool.noConfusion (Eq.trans (Eq.symm h39) g25)) (fun g25 => ?_)
        refine ev_ldc k232_28 ?_
        refine ev_goto k232_30 ?_
        refine ev_ist4 k232_35 rfl ?_
        refine ev_ild4 k232_37 ?_
        refine ev_if_eq k232_39 (fun g39 => absurd g39 (by decide)) (fun g39 => ?_)
        refine ev_ald0 k232_42 ?_
        refine ev_ild4 k232_43 ?_
        refine ev_cV2i k232_45 cs_238 (by first | assumption | rfl) (by omega) (Nat.le_of_ble_eq_true rfl) rfl rfl rfl ?_
        refine sm_error (k := 1) (by decide) (by decide) ?_
        refine ev_ri k232_48 rfl ?_
        first | exact ⟨rfl, Inv_e rfl rfl inv⟩ | exact ⟨rfl, inv⟩
    ·
      refine ev_ald0 k106_22 ?_
      refine ev_ldc k106_23 ?_
      refine ev_cV2i k106_25 cs_174 (by first | assumption | rfl) (by omega) (Nat.le_of_ble_eq_true rfl) rfl rfl rfl ?_
      refine sp_error (k := 2) (by decide) (by decide) (by decide) ?_
      refine ev_ri k106_28 rfl ?_
      refine hQ _ _ ?_
      show mm_Ev mm_T0 X (d + 60) 232 0 [.ref 91, .int _, .int _, .int _, .retAddr 0] [] _ (mm_pi _)
      refine ev_ald0 k232_0 ?_
      refine ev_ild1 k232_1 ?_
      refine ev_cV2i k232_2 cs_288 (by first | assumption | rfl) (by omega) (Nat.le_of_ble_eq_true rfl) rfl rfl rfl ?_
      refine sm_nt2 h4 hs4 (show _ = _ from c2) (of_decide_eq_true h19) ?_
      refine ev_ist4 k232_5 rfl ?_
      refine ev_ild4 k232_7 ?_
      refine ev_if_ne k232_9 (fun g9 => ?_) (fun g9 => absurd g9 (by decide))
      refine ev_ild4 k232_33 ?_
      refine ev_ist4 k232_35 rfl ?_
      refine ev_ild4 k232_37 ?_
      refine ev_if_eq k232_39 (fun g39 => absurd g39 (by decide)) (fun g39 => ?_)
      refine ev_ald0 k232_42 ?_
      refine ev_ild4 k232_43 ?_
      refine ev_cV2i k232_45 cs_238 (by first | assumption | rfl) (by omega) (Nat.le_of_ble_eq_true rfl) rfl rfl rfl ?_
      refine sm_error (k := 2) (by decide) (by decide) ?_
      refine ev_ri k232_48 rfl ?_
      first | exact ⟨rfl, Inv_e rfl rfl inv⟩ | exact ⟨rfl, inv⟩
  ·
    refine ev_ald0 k106_7 ?_
    refine ev_ldc k106_8 ?_
    refine ev_cV2i k106_10 cs_174 (by first | assumption | rfl) (by omega) (Nat.le_of_ble_eq_true rfl) rfl rfl rfl ?_
    refine sp_error (k := 1) (by decide) (by decide) (by decide) ?_
    refine ev_ri k106_13 rfl ?_
    refine hQ _ _ ?_
    show mm_Ev mm_T0 X (d + 60) 232 0 [.ref 91, .int _, .int _, .int _, .retAddr 0] [] _ (mm_pi _)
    refine ev_ald0 k232_0 ?_
    refine ev_ild1 k232_1 ?_
    refine ev_cV2i k232_2 cs_288 (by first | assumption | rfl) (by omega) (Nat.le_of_ble_eq_true rfl) rfl rfl rfl ?_
    refine sm_nt1 h4 ?_
    refine ev_ist4 k232_5 rfl ?_
    refine ev_ild4 k232_7 ?_
    refine ev_if_ne k232_9 (fun g9 => ?_) (fun g9 => absurd g9 (by decide))
    refine ev_ild4 k232_33 ?_
    refine ev_ist4 k232_35 rfl ?_
    refine ev_ild4 k232_37 ?_
    refine ev_if_eq k232_39 (fun g39 => absurd g39 (by decide)) (fun g39 => ?_)
    refine ev_ald0 k232_42 ?_
    refine ev_ild4 k232_43 ?_
    refine ev_cV2i k232_45 cs_238 (by first | assumption | rfl) (by omega) (Nat.le_of_ble_eq_true rfl) rfl rfl rfl ?_
    refine sm_error (k := 1) (by decide) (by decide) ?_
    refine ev_ri k232_48 rfl ?_
    first | exact ⟨rfl, Inv_e rfl rfl inv⟩ | exact ⟨rfl, inv⟩
theorem shN {x : Nat} (hx : x ≤ 40) : (if 0 < (if nI 40 < nI x then nI 40 else nI x) then (if nI 40 < nI x then nI 40 else nI x) else 0) = nI x := by
  rw [if_neg (nI_nlt hx (by omega))]
  by_cases h : 0 < x
  · rw [if_pos ((n0lt (by omega)).mpr h)]
  · have e : x = 0 := by omega
    subst e
    rfl
def zr (f : Nat → Int32) (s i : Nat) : Nat → Int32 := fun j => if 40 * s ≤ j ∧ j < 40 * s + i then 0 else f j
theorem zr_0 (J : mm_I) (s : Nat) : mm_rp J 103 (zr (J 103) s 0) = J := by
  have e : zr (J 103) s 0 = J 103 := funext fun j => if_neg (by omega)
  rw [e, mm_rp_self]
theorem zr_s (J : mm_I) (s i : Nat) : mm_up (mm_rp J 103 (zr (J 103) s i)) 103 (40 * s + i) 0 = mm_rp J 103 (zr (J 103) s (i + 1)) := by
  rw [mm_rp_up]
  congr 1
  funext j
  unfold zr upd
  by_cases h : j = 40 * s + i
  · rw [if_pos h, if_pos (by omega)]
  · rw [if_neg h]
    dsimp only
    by_cases h2 : 40 * s ≤ j ∧ j < 40 * s + i
    · rw [if_pos h2, if_pos (by omega)]
    · rw [if_neg h2, if_neg (by omega)]
theorem sh_new {I : mm_I} {s x b : Nat} {K L : mm_I} (sh : shR I) (hs : s < 4) (hx : x ≤ 40) (hb : b = 0 ∨ b = 8 ∨ b = 16 ∨ b = 32) (hK : K = mm_fl (mm_up (mm_up I (80 + 2 * s) 1 (nI b)) (80 + 2 * s) 2 (nI x)) (80 + 2 * s + 1) 40 0) (hL : L = mm_rp (mm_up (mm_up K 101 s (nI b)) 102 s (nI x)) 103 (zr (K 103) s 40)) : (∀ k, ¬ (80 ≤ k ∧ k ≤ 87) → k ≠ 101 → k ≠ 102 → k ≠ 103 → L k = I k) ∧ shR L := by
  have fl : ∀ k, k ≠ 80 + 2 * s + 1 → K k = mm_up (mm_up I (80 + 2 * s) 1 (nI b)) (80 + 2 * s) 2 (nI x) k := fun k hk => by rw [hK]; exact if_neg hk
  have g1 : ∀ k, k ≠ 101 → k ≠ 102 → k ≠ 103 → L k = K k := fun k a b c => by rw [hL, mm_rp_ne _ _ _ c, mm_up_ne _ _ _ _ _ b, mm_up_ne _ _ _ _ _ a]
  refine ⟨fun k h1 h2 h3 h4 => ?_, fun r hr => ?_⟩
  · rw [g1 k h2 h3 h4, fl k (by omega), mm_up_ne _ _ _ _ _ (by omega), mm_up_ne _ _ _ _ _ (by omega)]
  · have k103 : K 103 = I 103 := by rw [fl 103 (by omega), mm_up_ne _ _ _ _ _ (by omega), mm_up_ne _ _ _ _ _ (by omega)]
    have e103 : L 103 = zr (I 103) s 40 := by rw [hL, mm_rp_at, k103]
    have e101 : ∀ q, L 101 q = if q = s then nI b else I 101 q := fun q => by
      rw [hL, mm_rp_ne _ _ _ (by decide), mm_up_ne _ _ _ _ _ (by decide), mm_up_at, fl 101 (by omega), mm_up_ne _ _ _ _ _ (by omega), mm_up_ne _ _ _ _ _ (by omega)]
      by_cases z : q = s
      · rw [if_pos ⟨rfl, z⟩, if_pos z]
      · rw [if_neg (fun w => z w.2), if_neg z]
    have e102 : ∀ q, L 102 q = if q = s then nI x else I 102 q := fun q => by
      rw [hL, mm_rp_ne _ _ _ (by decide), mm_up_at, mm_up_ne _ _ _ _ _ (by decide), fl 102 (by omega), mm_up_ne _ _ _ _ _ (by omega), mm_up_ne _ _ _ _ _ (by omega)]
      by_cases z : q = s
      · rw [if_pos ⟨rfl, z⟩, if_pos z]
      · rw [if_neg (fun w => z w.2), if_neg z]
    rw [e101, e102, e103, g1 (80 + 2 * r) (by omega) (by omega) (by omega), g1 (81 + 2 * r) (by omega) (by omega) (by omega), fl (80 + 2 * r) (by omega)]
    by_cases e : r = s
    · subst e
      refine ⟨x, b, hx, hb, ?_, if_pos rfl, ?_, if_pos rfl, fun j hj => ?_⟩
      · rw [mm_up_at, if_neg (by omega), mm_up_at, if_pos ⟨rfl, rfl⟩]
      · rw [mm_up_at, if_pos ⟨rfl, rfl⟩]
      · have a1 : K (81 + 2 * r) j = 0 := by
          rw [hK]
          unfold mm_fl
          rw [if_pos (by omega)]
          exact if_pos hj
        rw [a1]
        unfold zr
        rw [if_pos (by omega)]
    · obtain ⟨n, b', h1, h2, h3, h4, h5, h6, h7⟩ := sh r hr
      refine ⟨n, b', h1, h2, ?_, by rw [if_neg e]; exact h4, ?_, by rw [if_neg e]; exact h6, fun j hj => ?_⟩
      · rw [mm_up_ne _ _ _ _ _ (by omega), mm_up_ne _ _ _ _ _ (by omega)]; exact h3
      · rw [mm_up_ne _ _ _ _ _ (by omega), mm_up_ne _ _ _ _ _ (by omega)]; exact h5
      · rw [fl _ (by omega), mm_up_ne _ _ _ _ _ (by omega), mm_up_ne _ _ _ _ _ (by omega), h7 j hj]
        unfold zr
        rw [if_neg (by omega)]
theorem lm_sheet {X : Nat × (Nat → Int32)} {d : Nat} {J : mm_I} {s : Nat} {b e : Int32} {P : Int32 → mm_I → Prop} (hs : s < 4) (hQ : P 1 (mm_rp J 103 (zr (J 103) s 40))) : ∀ (n i : Nat), i + n = 40 → True → mm_Ev mm_T0 X (d + 20) 230 93 [.ref 91, .int (nI s), .int b, .int e, .int (nI i)] [] (mm_rp J 103 (zr (J 103) s i)) (mm_pi P) := by
  have tm := tM
  have tr := tR
  have q1 := t101
  have q2 := t102
  have q3 := t103
  intro n
  induction n with
  | zero =>
    intro i hi _ht
    have e : i = 40 := by omega
    subst e
    refine ev_ild4 k230_93 ?_
    refine ev_bipush k230_95 ?_
    rw [show (40 : Int32) = nI 40 from rfl]
    refine ev_jcmp_ge k230_97 (fun h97 => ?_) (fun h97 => absurd h97 (nI_nlt (Nat.le_refl _) (by omega)))
    refine ev_iconst k230_119 ?_
    refine ev_ri k230_120 rfl ?_
    exact hQ
  | succ n ih =>
    intro i hi _ht
    have hlt : i < 40 := by omega
    refine ev_ild4 k230_93 ?_
    refine ev_bipush k230_95 ?_
    rw [show (40 : Int32) = nI 40 from rfl]
    refine ev_jcmp_ge k230_97 (fun h97 => absurd (nI_lt hlt (by omega)) h97) (fun h97 => ?_)
    refine ev_ald0 k230_100 ?_
    refine ev_getr k230_101 (by first | assumption | rfl) rfl rfl rfl ?_
    refine ev_bipush k230_104 ?_
    refine ev_ild1 k230_106 ?_
    refine ev_imul k230_107 ?_
    refine ev_ild4 k230_108 ?_
    refine ev_iadd k230_110 ?_
    rw [idxC]
    refine ev_iconst k230_111 ?_
    refine ev_ias (j := (40 * s + i)) k230_112 (by first | assumption | rfl) (nI_clamp (by omega)) (vp_in_nI (show 40 * s + i < 160 by omega) (by omega)) ?_
    refine ev_inc4 k230_113 rfl ?_
    refine ev_goto k230_116 ?_
    rw [nI_1, zr_s]
    exact ih (i + 1) (by omega) trivial
/-- CV.sheet -/
theorem op_sheet {X : Nat × (Nat → Int32)} {d : Nat} {I : mm_I} {P : Int32 → mm_I → Prop} {a : Int32} {b : Int32} {e : Int32} (inv : Inv I) (hQ : ∀ v J, mm_Ev mm_T0 X (d + 60) 230 0 (mm_ent 230 [.ref 91, .int a, .int b, .int e]) [] J (mm_pi fun w K => w = v ∧ Inv K) → P v J) : mm_Ev mm_T0 X (d + 60) 105 0 (mm_ent 105 [.ref 0, .int a, .int b, .int e]) [] I (mm_pi P) := by
  show mm_Ev mm_T0 X (d + 60) 105 0 [.ref 0, .int a, .int b, .int e] [] I (mm_pi P)
  obtain ⟨nc, np, hs⟩ := inv.1
  obtain ⟨c1, n6, p1, p6, rc, rp, rm, ok, sr, tt⟩ := hsF hs
  have t0 := tCV
  have tm := tM
  have tr := tR
  have q1 := t101
  have q2 := t102
  have q3 := t103
  refine ev_ild1 k105_0 ?_
  refine ev_cS1i k105_1 cs_206 rfl rfl rfl ?_
  refine sp_isSheet ?_
  refine ev_ifz_eq k105_4 (fun h4 => ?_) (fun h4 => ?_)
  ·
    refine ev_ald0 k105_14 ?_
    refine ev_ldc k105_15 ?_
    refine ev_cV2i k105_17 cs_174 (by first | assumption | rfl) (by omega) (Nat.le_of_ble_eq_true rfl) rfl rfl rfl ?_
    refine sp_error (k := 1) (by decide) (by decide) (by decide) ?_
    refine ev_ri k105_20 rfl ?_
    refine hQ _ _ ?_
    show mm_Ev mm_T0 X (d + 60) 230 0 [.ref 91, .int _, .int _, .int _, .retAddr 0] [] _ (mm_pi _)
    refine ev_ild1 k230_0 ?_
    refine ev_cS1i k230_1 cs_273 rfl rfl rfl ?_
    refine sm_isSheet ?_
    refine ev_ifz_eq k230_4 (fun g4 => ?_) (fun g4 => Bool.noConfusion (Eq.trans (Eq.symm h4) g4))
    refine ev_ald0 k230_29 ?_
    refine ev_ldc k230_30 ?_
    refine ev_cV2i k230_32 cs_238 (by first | assumption | rfl) (by omega) (Nat.le_of_ble_eq_true rfl) rfl rfl rfl ?_
    refine sm_error (k := 1) (by decide) (by decide) ?_
    refine ev_ri k230_35 rfl ?_
    first | exact ⟨rfl, Inv_e rfl rfl inv⟩ | exact ⟨rfl, inv⟩
  ·
    obtain ⟨s, hs4, rfl⟩ := wB_le (hi := 3) (by omega) h4
    replace hs4 : s < 4 := by omega
    have ts0 := tS0 hs4
    have ts1 := tS1 hs4
    refine ev_ild2 k105_7 ?_
    refine ev_cS1i k105_8 cs_216 rfl rfl rfl ?_
    refine sp_isBits ?_
    refine ev_ifz_ne k105_11 (fun h11 => ?_) (fun h11 => ?_)
    ·
      rcases ybits h11 with rfl | rfl | rfl | rfl
      ·
        refine ev_ild2 k105_21 ?_
        refine ev_if_eq k105_22 (fun h22 => ?_) (fun h22 => absurd rfl h22)
        refine ev_ild2 k105_36 ?_
        refine ev_if_eq k105_37 (fun h37 => ?_) (fun h37 => absurd rfl h37)
        refine ev_ald0 k105_53 ?_
        refine ev_getr k105_54 (by first | assumption | rfl) rfl rfl rfl ?_
        refine ev_ild1 k105_57 ?_
        refine ev_aaload k105_58 (by first | assumption | rfl) (by decide) (vp_in_nI (show s < 4 by omega) (by decide)) (tSa hs4) ?_
        refine ev_ild2 k105_59 ?_
        refine ev_ild2 k105_60 ?_
        refine ev_if_ne k105_61 (fun h61 => absurd rfl h61) (fun h61 => ?_)
        refine ev_iconst k105_64 ?_
        refine ev_goto k105_65 ?_
        refine ev_cV3v k105_69 cs_217 (by first | assumption | rfl) (by omega) (Nat.le_of_ble_eq_true rfl) rfl rfl rfl ?_
        refine sp_shape (N := 40) ts0 ts1 (by omega) (by decide) ?_
        rw [show (if (0 : Int32) < (if nI 40 < (0 : Int32) then nI 40 else (0 : Int32)) then (if nI 40 < (0 : Int32) then nI 40 else (0 : Int32)) else 0) = nI 0 from shN (x := 0) (by omega)]
        refine ev_iconst k105_72 ?_
        refine ev_ri k105_73 rfl ?_
        refine hQ _ _ ?_
        show mm_Ev mm_T0 X (d + 60) 230 0 [.ref 91, .int _, .int _, .int _, .retAddr 0] [] _ (mm_pi _)
        refine ev_ild1 k230_0 ?_
        refine ev_cS1i k230_1 cs_273 rfl rfl rfl ?_
        refine sm_isSheet ?_
        refine ev_ifz_eq k230_4 (fun g4 => Bool.noConfusion (Eq.trans (Eq.symm h4) g4)) (fun g4 => ?_)
        refine ev_ild2 k230_7 ?_
        refine ev_if_eq k230_8 (fun g8 => ?_) (fun g8 => absurd rfl g8)
        refine ev_ild2 k230_36 ?_
        refine ev_jf_le k230_37 (fun g37 => ?_) (fun g37 => absurd g37 (by decide))
        refine ev_ild2 k230_51 ?_
        refine ev_jf_le k230_52 (fun g52 => ?_) (fun g52 => absurd g52 (by decide))
        refine ev_ald0 k230_68 ?_
        refine ev_getr k230_69 (by first | assumption | rfl) rfl rfl rfl ?_
        refine ev_ild1 k230_72 ?_
        refine ev_ild2 k230_73 ?_
        refine ev_ias (j := s) k230_74 (by first | assumption | rfl) (nI_clamp (by omega)) (vp_in_nI (show s < 4 by omega) (by decide)) ?_
        refine ev_ald0 k230_75 ?_
        refine ev_getr k230_76 (by first | assumption | rfl) rfl rfl rfl ?_
        refine ev_ild1 k230_79 ?_
        refine ev_ild2 k230_80 ?_
        refine ev_if_ne k230_81 (fun g81 => absurd rfl g81) (fun g81 => ?_)
        refine ev_iconst k230_84 ?_
        refine ev_goto k230_85 ?_
        refine ev_ias (j := s) k230_89 (by first | assumption | rfl) (nI_clamp (by omega)) (vp_in_nI (show s < 4 by omega) (by decide)) ?_
        refine ev_iconst k230_90 ?_
        refine ev_ist4 k230_91 rfl ?_
        have ez : ∀ K : mm_I, mm_rp K 103 (zr (K 103) s 0) = K := fun K => zr_0 K s
        generalize hK : mm_fl _ _ _ _ = K
        generalize hM : mm_up (mm_up K 101 s _) 102 s _ = M
        rw [← ez M]
        refine lm_sheet hs4 ?_ 40 0 (by omega) trivial
        obtain ⟨z1, z2⟩ := sh_new (I := I) (s := s) (x := 0) (b := 0) inv.2.2.2.2.1 hs4 (by omega) (by decide) hK.symm rfl
        have e1 : M 103 = K 103 := by rw [← hM, mm_up_ne _ _ _ _ _ (by decide), mm_up_ne _ _ _ _ _ (by decide)]
        rw [e1, ← hM]
        exact ⟨rfl, Inv_sh inv z1 z2⟩
      ·
        refine ev_ild2 k105_21 ?_
        refine ev_if_eq k105_22 (fun h22 => absurd h22 (by decide)) (fun h22 => ?_)
        refine ev_ild3 k105_25 ?_
        refine ev_jf_ge k105_26 (fun h26 => ?_) (fun h26 => ?_)
        ·
          refine ev_ild2 k105_36 ?_
          refine ev_if_eq k105_37 (fun h37 => absurd h37 (by decide)) (fun h37 => ?_)
          refine ev_ild3 k105_40 ?_
          refine ev_bipush k105_41 ?_
          refine ev_jcmp_le k105_43 (fun h43 => ?_) (fun h43 => ?_)
          ·
            obtain ⟨x, hx, rfl⟩ : ∃ x : Nat, x ≤ 40 ∧ e = nI x := by
              obtain ⟨x, hx, rfl⟩ := nI_of h26
              exact ⟨x, Nat.le_of_not_lt (fun z => h43 (nI_lt z hx)), rfl⟩
            refine ev_ald0 k105_53 ?_
            refine ev_getr k105_54 (by first | assumption | rfl) rfl rfl rfl ?_
            refine ev_ild1 k105_57 ?_
            refine ev_aaload k105_58 (by first | assumption | rfl) (by decide) (vp_in_nI (show s < 4 by omega) (by decide)) (tSa hs4) ?_
            refine ev_ild2 k105_59 ?_
            refine ev_ild2 k105_60 ?_
            refine ev_if_ne k105_61 (fun h61 => ?_) (fun h61 => absurd h61 (by decide))
            refine ev_ild3 k105_68 ?_
            refine ev_cV3v k105_69 cs_217 (by first | assumption | rfl) (by omega) (Nat.le_of_ble_eq_true rfl) rfl rfl rfl ?_
            refine sp_shape (N := 40) ts0 ts1 (by omega) (by decide) ?_
            rw [show (if (0 : Int32) < (if nI 40 < nI x then nI 40 else nI x) then (if nI 40 < nI x then nI 40 else nI x) else 0) = nI x from shN (x := x) (by omega)]
            refine ev_iconst k105_72 ?_
            refine ev_ri k105_73 rfl ?_
            refine hQ _ _ ?_
            show mm_Ev mm_T0 X (d + 60) 230 0 [.ref 91, .int _, .int _, .int _, .retAddr 0] [] _ (mm_pi _)
            refine ev_ild1 k230_0 ?_
            refine ev_cS1i k230_1 cs_273 rfl rfl rfl ?_
            refine sm_isSheet ?_
            refine ev_ifz_eq k230_4 (fun g4 => Bool.noConfusion (Eq.trans (Eq.symm h4) g4)) (fun g4 => ?_)
            refine ev_ild2 k230_7 ?_
            refine ev_if_eq k230_8 (fun g8 => absurd g8 (by decide)) (fun g8 => ?_)
            refine ev_ild2 k230_11 ?_
            refine ev_bipush k230_12 ?_
            refine ev_icmp_eq k230_14 (fun g14 => ?_) (fun g14 => absurd rfl g14)
            refine ev_ild2 k230_36 ?_
            refine ev_jf_le k230_37 (fun g37 => absurd (by decide) g37) (fun g37 => ?_)
            refine ev_ild3 k230_40 ?_
            refine ev_jf_ge k230_41 (fun g41 => ?_) (fun g41 => absurd g41 h26)
            refine ev_ild2 k230_51 ?_
            refine ev_jf_le k230_52 (fun g52 => absurd (by decide) g52) (fun g52 => ?_)
            refine ev_ild3 k230_55 ?_
            refine ev_bipush k230_56 ?_
            refine ev_jcmp_le k230_58 (fun g58 => ?_) (fun g58 => absurd g58 h43)
            refine ev_ald0 k230_68 ?_
            refine ev_getr k230_69 (by first | assumption | rfl) rfl rfl rfl ?_
            refine ev_ild1 k230_72 ?_
            refine ev_ild2 k230_73 ?_
            refine ev_ias (j := s) k230_74 (by first | assumption | rfl) (nI_clamp (by omega)) (vp_in_nI (show s < 4 by omega) (by decide)) ?_
            refine ev_ald0 k230_75 ?_
            refine ev_getr k230_76 (by first | assumption | rfl) rfl rfl rfl ?_
            refine ev_ild1 k230_79 ?_
            refine ev_ild2 k230_80 ?_
            refine ev_if_ne k230_81 (fun g81 => ?_) (fun g81 => absurd g81 (by decide))
            refine ev_ild3 k230_88 ?_
            refine ev_ias (j := s) k230_89 (by first | assumption | rfl) (nI_clamp (by omega)) (vp_in_nI (show s < 4 by omega) (by decide)) ?_
            refine ev_iconst k230_90 ?_
            refine ev_ist4 k230_91 rfl ?_
            have ez : ∀ K : mm_I, mm_rp K 103 (zr (K 103) s 0) = K := fun K => zr_0 K s
            generalize hK : mm_fl _ _ _ _ = K
            generalize hM : mm_up (mm_up K 101 s _) 102 s _ = M
            rw [← ez M]
            refine lm_sheet hs4 ?_ 40 0 (by omega) trivial
            obtain ⟨z1, z2⟩ := sh_new (I := I) (s := s) (x := x) (b := 8) inv.2.2.2.2.1 hs4 (by omega) (by decide) hK.symm rfl
            have e1 : M 103 = K 103 := by rw [← hM, mm_up_ne _ _ _ _ _ (by decide), mm_up_ne _ _ _ _ _ (by decide)]
            rw [e1, ← hM]
            exact ⟨rfl, Inv_sh inv z1 z2⟩
          ·
            refine ev_ald0 k105_46 ?_
            refine ev_ldc k105_47 ?_
            refine ev_cV2i k105_49 cs_174 (by first | assumption | rfl) (by omega) (Nat.le_of_ble_eq_true rfl) rfl rfl rfl ?_
            refine sp_error (k := 1) (by decide) (by decide) (by decide) ?_
            refine ev_ri k105_52 rfl ?_
            refine hQ _ _ ?_
            show mm_Ev mm_T0 X (d + 60) 230 0 [.ref 91, .int _, .int _, .int _, .retAddr 0] [] _ (mm_pi _)
            refine ev_ild1 k230_0 ?_
            refine ev_cS1i k230_1 cs_273 rfl rfl rfl ?_
            refine sm_isSheet ?_
            refine ev_ifz_eq k230_4 (fun g4 => Bool.noConfusion (Eq.trans (Eq.symm h4) g4)) (fun g4 => ?_)
            refine ev_ild2 k230_7 ?_
            refine ev_if_eq k230_8 (fun g8 => absurd g8 (by decide)) (fun g8 => ?_)
            refine ev_ild2 k230_11 ?_
            refine ev_bipush k230_12 ?_
            refine ev_icmp_eq k230_14 (fun g14 => ?_) (fun g14 => absurd rfl g14)
            refine ev_ild2 k230_36 ?_
            refine ev_jf_le k230_37 (fun g37 => absurd (by decide) g37) (fun g37 => ?_)
            refine ev_ild3 k230_40 ?_
            refine ev_jf_ge k230_41 (fun g41 => ?_) (fun g41 => absurd g41 h26)
            refine ev_ild2 k230_51 ?_
            refine ev_jf_le k230_52 (fun g52 => absurd (by decide) g52) (fun g52 => ?_)
            refine ev_ild3 k230_55 ?_
            refine ev_bipush k230_56 ?_
            refine ev_jcmp_le k230_58 (fun g58 => absurd h43 g58) (fun g58 => ?_)
            refine ev_ald0 k230_61 ?_
            refine ev_ldc k230_62 ?_
            refine ev_cV2i k230_64 cs_238 (by first | assumption | rfl) (by omega) (Nat.le_of_ble_eq_true rfl) rfl rfl rfl ?_
            refine sm_error (k := 1) (by decide) (by decide) ?_
            refine ev_ri k230_67 rfl ?_
            first | exact ⟨rfl, Inv_e rfl rfl inv⟩ | exact ⟨rfl, inv⟩
        ·
          refine ev_ald0 k105_29 ?_
          refine ev_ldc k105_30 ?_
          refine ev_cV2i k105_32 cs_174 (by first | assumption | rfl) (by omega) (Nat.le_of_ble_eq_true rfl) rfl rfl rfl ?_
          refine sp_error (k := 3) (by decide) (by decide) (by decide) ?_
          refine ev_ri k105_35 rfl ?_
          refine hQ _ _ ?_
          show mm_Ev mm_T0 X (d + 60) 230 0 [.ref 91, .int _, .int _, .int _, .retAddr 0] [] _ (mm_pi _)
          refine ev_ild1 k230_0 ?_
          refine ev_cS1i k230_1 cs_273 rfl rfl rfl ?_
          refine sm_isSheet ?_
          refine ev_ifz_eq k230_4 (fun g4 => Bool.noConfusion (Eq.trans (Eq.symm h4) g4)) (fun g4 => ?_)
          refine ev_ild2 k230_7 ?_
          refine ev_if_eq k230_8 (fun g8 => absurd g8 (by decide)) (fun g8 => ?_)
          refine ev_ild2 k230_11 ?_
          refine ev_bipush k230_12 ?_
          refine ev_icmp_eq k230_14 (fun g14 => ?_) (fun g14 => absurd rfl g14)
          refine ev_ild2 k230_36 ?_
          refine ev_jf_le k230_37 (fun g37 => absurd (by decide) g37) (fun g37 => ?_)
          refine ev_ild3 k230_40 ?_
          refine ev_jf_ge k230_41 (fun g41 => absurd h26 g41) (fun g41 => ?_)
          refine ev_ald0 k230_44 ?_
          refine ev_ldc k230_45 ?_
          refine ev_cV2i k230_47 cs_238 (by first | assumption | rfl) (by omega) (Nat.le_of_ble_eq_true rfl) rfl rfl rfl ?_
          refine sm_error (k := 3) (by decide) (by decide) ?_
          refine ev_ri k230_50 rfl ?_
          first | exact ⟨rfl, Inv_e rfl rfl inv⟩ | exact ⟨rfl, inv⟩
      ·
        refine ev_ild2 k105_21 ?_
        refine ev_if_eq k105_22 (fun h22 => absurd h22 (by decide)) (fun h22 => ?_)
        refine ev_ild3 k105_25 ?_
        refine ev_jf_ge k105_26 (fun h26 => ?_) (fun h26 => ?_)
        ·
          refine ev_ild2 k105_36 ?_
          refine ev_if_eq k105_37 (fun h37 => absurd h37 (by decide)) (fun h37 => ?_)
          refine ev_ild3 k105_40 ?_
          refine ev_bipush k105_41 ?_
          refine ev_jcmp_le k105_43 (fun h43 => ?_) (fun h43 => ?_)
          ·
            obtain ⟨x, hx, rfl⟩ : ∃ x : Nat, x ≤ 40 ∧ e = nI x := by
              obtain ⟨x, hx, rfl⟩ := nI_of h26
              exact ⟨x, Nat.le_of_not_lt (fun z => h43 (nI_lt z hx)), rfl⟩
            refine ev_ald0 k105_53 ?_
            refine ev_getr k105_54 (by first | assumption | rfl) rfl rfl rfl ?_
            refine ev_ild1 k105_57 ?_
            refine ev_aaload k105_58 (by first | assumption | rfl) (by decide) (vp_in_nI (show s < 4 by omega) (by decide)) (tSa hs4) ?_
            refine ev_ild2 k105_59 ?_
            refine ev_ild2 k105_60 ?_
            refine ev_if_ne k105_61 (fun h61 => ?_) (fun h61 => absurd h61 (by decide))
            refine ev_ild3 k105_68 ?_
            refine ev_cV3v k105_69 cs_217 (by first | assumption | rfl) (by omega) (Nat.le_of_ble_eq_true rfl) rfl rfl rfl ?_
            refine sp_shape (N := 40) ts0 ts1 (by omega) (by decide) ?_
            rw [show (if (0 : Int32) < (if nI 40 < nI x then nI 40 else nI x) then (if nI 40 < nI x then nI 40 else nI x) else 0) = nI x from shN (x := x) (by omega)]
            refine ev_iconst k105_72 ?_
            refine ev_ri k105_73 rfl ?_
            refine hQ _ _ ?_
            show mm_Ev mm_T0 X (d + 60) 230 0 [.ref 91, .int _, .int _, .int _, .retAddr 0] [] _ (mm_pi _)
            refine ev_ild1 k230_0 ?_
            refine ev_cS1i k230_1 cs_273 rfl rfl rfl ?_
            refine sm_isSheet ?_
            refine ev_ifz_eq k230_4 (fun g4 => Bool.noConfusion (Eq.trans (Eq.symm h4) g4)) (fun g4 => ?_)
            refine ev_ild2 k230_7 ?_
            refine ev_if_eq k230_8 (fun g8 => absurd g8 (by decide)) (fun g8 => ?_)
            refine ev_ild2 k230_11 ?_
            refine ev_bipush k230_12 ?_
            refine ev_icmp_eq k230_14 (fun g14 => absurd g14 (by decide)) (fun g14 => ?_)
            refine ev_ild2 k230_17 ?_
            refine ev_bipush k230_18 ?_
            refine ev_icmp_eq k230_20 (fun g20 => ?_) (fun g20 => absurd rfl g20)
            refine ev_ild2 k230_36 ?_
            refine ev_jf_le k230_37 (fun g37 => absurd (by decide) g37) (fun g37 => ?_)
            refine ev_ild3 k230_40 ?_
            refine ev_jf_ge k230_41 (fun g41 => ?_) (fun g41 => absurd g41 h26)
            refine ev_ild2 k230_51 ?_
            refine ev_jf_le k230_52 (fun g52 => absurd (by decide) g52) (fun g52 => ?_)
            refine ev_ild3 k230_55 ?_
            refine ev_bipush k230_56 ?_
            refine ev_jcmp_le k230_58 (fun g58 => ?_) (fun g58 => absurd g58 h43)
            refine ev_ald0 k230_68 ?_
            refine ev_getr k230_69 (by first | assumption | rfl) rfl rfl rfl ?_
            refine ev_ild1 k230_72 ?_
            refine ev_ild2 k230_73 ?_
            refine ev_ias (j := s) k230_74 (by first | assumption | rfl) (nI_clamp (by omega)) (vp_in_nI (show s < 4 by omega) (by decide)) ?_
            refine ev_ald0 k230_75 ?_
            refine ev_getr k230_76 (by first | assumption | rfl) rfl rfl rfl ?_
            refine ev_ild1 k230_79 ?_
            refine ev_ild2 k230_80 ?_
            refine ev_if_ne k230_81 (fun g81 => ?_) (fun g81 => absurd g81 (by decide))
            refine ev_ild3 k230_88 ?_
            refine ev_ias (j := s) k230_89 (by first | assumption | rfl) (nI_clamp (by omega)) (vp_in_nI (show s < 4 by omega) (by decide)) ?_
            refine ev_iconst k230_90 ?_
            refine ev_ist4 k230_91 rfl ?_
            have ez : ∀ K : mm_I, mm_rp K 103 (zr (K 103) s 0) = K := fun K => zr_0 K s
            generalize hK : mm_fl _ _ _ _ = K
            generalize hM : mm_up (mm_up K 101 s _) 102 s _ = M
            rw [← ez M]
            refine lm_sheet hs4 ?_ 40 0 (by omega) trivial
            obtain ⟨z1, z2⟩ := sh_new (I := I) (s := s) (x := x) (b := 16) inv.2.2.2.2.1 hs4 (by omega) (by decide) hK.symm rfl
            have e1 : M 103 = K 103 := by rw [← hM, mm_up_ne _ _ _ _ _ (by decide), mm_up_ne _ _ _ _ _ (by decide)]
            rw [e1, ← hM]
            exact ⟨rfl, Inv_sh inv z1 z2⟩
          ·
            refine ev_ald0 k105_46 ?_
            refine ev_ldc k105_47 ?_
            refine ev_cV2i k105_49 cs_174 (by first | assumption | rfl) (by omega) (Nat.le_of_ble_eq_true rfl) rfl rfl rfl ?_
            refine sp_error (k := 1) (by decide) (by decide) (by decide) ?_
            refine ev_ri k105_52 rfl ?_
            refine hQ _ _ ?_
            show mm_Ev mm_T0 X (d + 60) 230 0 [.ref 91, .int _, .int _, .int _, .retAddr 0] [] _ (mm_pi _)
            refine ev_ild1 k230_0 ?_
            refine ev_cS1i k230_1 cs_273 rfl rfl rfl ?_
            refine sm_isSheet ?_
            refine ev_ifz_eq k230_4 (fun g4 => Bool.noConfusion (Eq.trans (Eq.symm h4) g4)) (fun g4 => ?_)
            refine ev_ild2 k230_7 ?_
            refine ev_if_eq k230_8 (fun g8 => absurd g8 (by decide)) (fun g8 => ?_)
            refine ev_ild2 k230_11 ?_
            refine ev_bipush k230_12 ?_
            refine ev_icmp_eq k230_14 (fun g14 => absurd g14 (by decide)) (fun g14 => ?_)
            refine ev_ild2 k230_17 ?_
            refine ev_bipush k230_18 ?_
            refine ev_icmp_eq k230_20 (fun g20 => ?_) (fun g20 => absurd rfl g20)
            refine ev_ild2 k230_36 ?_
            refine ev_jf_le k230_37 (fun g37 => absurd (by decide) g37) (fun g37 => ?_)
            refine ev_ild3 k230_40 ?_
            refine ev_jf_ge k230_41 (fun g41 => ?_) (fun g41 => absurd g41 h26)
            refine ev_ild2 k230_51 ?_
            refine ev_jf_le k230_52 (fun g52 => absurd (by decide) g52) (fun g52 => ?_)
            refine ev_ild3 k230_55 ?_
            refine ev_bipush k230_56 ?_
            refine ev_jcmp_le k230_58 (fun g58 => absurd h43 g58) (fun g58 => ?_)
            refine ev_ald0 k230_61 ?_
            refine ev_ldc k230_62 ?_
            refine ev_cV2i k230_64 cs_238 (by first | assumption | rfl) (by omega) (Nat.le_of_ble_eq_true rfl) rfl rfl rfl ?_
            refine sm_error (k := 1) (by decide) (by decide) ?_
            refine ev_ri k230_67 rfl ?_
            first | exact ⟨rfl, Inv_e rfl rfl inv⟩ | exact ⟨rfl, inv⟩
        ·
          refine ev_ald0 k105_29 ?_
          refine ev_ldc k105_30 ?_
          refine ev_cV2i k105_32 cs_174 (by first | assumption | rfl) (by omega) (Nat.le_of_ble_eq_true rfl) rfl rfl rfl ?_
          refine sp_error (k := 3) (by decide) (by decide) (by decide) ?_
          refine ev_ri k105_35 rfl ?_
          refine hQ _ _ ?_
          show mm_Ev mm_T0 X (d + 60) 230 0 [.ref 91, .int _, .int _, .int _, .retAddr 0] [] _ (mm_pi _)
          refine ev_ild1 k230_0 ?_
          refine ev_cS1i k230_1 cs_273 rfl rfl rfl ?_
          refine sm_isSheet ?_
          refine ev_ifz_eq k230_4 (fun g4 => Bool.noConfusion (Eq.trans (Eq.symm h4) g4)) (fun g4 => ?_)
          refine ev_ild2 k230_7 ?_
          refine ev_if_eq k230_8 (fun g8 => absurd g8 (by decide)) (fun g8 => ?_)
          refine ev_ild2 k230_11 ?_
          refine ev_bipush k230_12 ?_
          refine ev_icmp_eq k230_14 (fun g14 => absurd g14 (by decide)) (fun g14 => ?_)
          refine ev_ild2 k230_17 ?_
          refine ev_bipush k230_18 ?_
          refine ev_icmp_eq k230_20 (fun g20 => ?_) (fun g20 => absurd rfl g20)
          refine ev_ild2 k230_36 ?_
          refine ev_jf_le k230_37 (fun g37 => absurd (by decide) g37) (fun g37 => ?_)
          refine ev_ild3 k230_40 ?_
          refine ev_jf_ge k230_41 (fun g41 => absurd h26 g41) (fun g41 => ?_)
          refine ev_ald0 k230_44 ?_
          refine ev_ldc k230_45 ?_
          refine ev_cV2i k230_47 cs_238 (by first | assumption | rfl) (by omega) (Nat.le_of_ble_eq_true rfl) rfl rfl rfl ?_
          refine sm_error (k := 3) (by decide) (by decide) ?_
          refine ev_ri k230_50 rfl ?_
          first | exact ⟨rfl, Inv_e rfl rfl inv⟩ | exact ⟨rfl, inv⟩
      ·
        refine ev_ild2 k105_21 ?_
        refine ev_if_eq k105_22 (fun h22 => absurd h22 (by decide)) (fun h22 => ?_)
        refine ev_ild3 k105_25 ?_
        refine ev_jf_ge k105_26 (fun h26 => ?_) (fun h26 => ?_)
        ·
          refine ev_ild2 k105_36 ?_
          refine ev_if_eq k105_37 (fun h37 => absurd h37 (by decide)) (fun h37 => ?_)
          refine ev_ild3 k105_40 ?_
          refine ev_bipush k105_41 ?_
          refine ev_jcmp_le k105_43 (fun h43 => ?_) (fun h43 => ?_)
          ·
            obtain ⟨x, hx, rfl⟩ : ∃ x : Nat, x ≤ 40 ∧ e = nI x := by
              obtain ⟨x, hx, rfl⟩ := nI_of h26
              exact ⟨x, Nat.le_of_not_lt (fun z => h43 (nI_lt z hx)), rfl⟩
            refine ev_ald0 k105_53 ?_
            refine ev_getr k105_54 (by first | assumption | rfl) rfl rfl rfl ?_
            refine ev_ild1 k105_57 ?_
            refine ev_aaload k105_58 (by first | assumption | rfl) (by decide) (vp_in_nI (show s < 4 by omega) (by decide)) (tSa hs4) ?_
            refine ev_ild2 k105_59 ?_
            refine ev_ild2 k105_60 ?_
            refine ev_if_ne k105_61 (fun h61 => ?_) (fun h61 => absurd h61 (by decide))
            refine ev_ild3 k105_68 ?_
            refine ev_cV3v k105_69 cs_217 (by first | assumption | rfl) (by omega) (Nat.le_of_ble_eq_true rfl) rfl rfl rfl ?_
            refine sp_shape (N := 40) ts0 ts1 (by omega) (by decide) ?_
            rw [show (if (0 : Int32) < (if nI 40 < nI x then nI 40 else nI x) then (if nI 40 < nI x then nI 40 else nI x) else 0) = nI x from shN (x := x) (by omega)]
            refine ev_iconst k105_72 ?_
            refine ev_ri k105_73 rfl ?_
            refine hQ _ _ ?_
            show mm_Ev mm_T0 X (d + 60) 230 0 [.ref 91, .int _, .int _, .int _, .retAddr 0] [] _ (mm_pi _)
            refine ev_ild1 k230_0 ?_
            refine ev_cS1i k230_1 cs_273 rfl rfl rfl ?_
            refine sm_isSheet ?_
            refine ev_ifz_eq k230_4 (fun g4 => Bool.noConfusion (Eq.trans (Eq.symm h4) g4)) (fun g4 => ?_)
            refine ev_ild2 k230_7 ?_
            refine ev_if_eq k230_8 (fun g8 => absurd g8 (by decide)) (fun g8 => ?_)
            refine ev_ild2 k230_11 ?_
            refine ev_bipush k230_12 ?_
            refine ev_icmp_eq k230_14 (fun g14 => absurd g14 (by decide)) (fun g14 => ?_)
            refine ev_ild2 k230_17 ?_
            refine ev_bipush k230_18 ?_
            refine ev_icmp_eq k230_20 (fun g20 => absurd g20 (by decide)) (fun g20 => ?_)
            refine ev_ild2 k230_23 ?_
            refine ev_bipush k230_24 ?_
            refine ev_icmp_eq k230_26 (fun g26 => ?_) (fun g26 => absurd rfl g26)
            refine ev_ild2 k230_36 ?_
            refine ev_jf_le k230_37 (fun g37 => absurd (by decide) g37) (fun g37 => ?_)
            refine ev_ild3 k230_40 ?_
            refine ev_jf_ge k230_41 (fun g41 => ?_) (fun g41 => absurd g41 h26)
            refine ev_ild2 k230_51 ?_
            refine ev_jf_le k230_52 (fun g52 => absurd (by decide) g52) (fun g52 => ?_)
            refine ev_ild3 k230_55 ?_
            refine ev_bipush k230_56 ?_
            refine ev_jcmp_le k230_58 (fun g58 => ?_) (fun g58 => absurd g58 h43)
            refine ev_ald0 k230_68 ?_
            refine ev_getr k230_69 (by first | assumption | rfl) rfl rfl rfl ?_
            refine ev_ild1 k230_72 ?_
            refine ev_ild2 k230_73 ?_
            refine ev_ias (j := s) k230_74 (by first | assumption | rfl) (nI_clamp (by omega)) (vp_in_nI (show s < 4 by omega) (by decide)) ?_
            refine ev_ald0 k230_75 ?_
            refine ev_getr k230_76 (by first | assumption | rfl) rfl rfl rfl ?_
            refine ev_ild1 k230_79 ?_
            refine ev_ild2 k230_80 ?_
            refine ev_if_ne k230_81 (fun g81 => ?_) (fun g81 => absurd g81 (by decide))
            refine ev_ild3 k230_88 ?_
            refine ev_ias (j := s) k230_89 (by first | assumption | rfl) (nI_clamp (by omega)) (vp_in_nI (show s < 4 by omega) (by decide)) ?_
            refine ev_iconst k230_90 ?_
            refine ev_ist4 k230_91 rfl ?_
            have ez : ∀ K : mm_I, mm_rp K 103 (zr (K 103) s 0) = K := fun K => zr_0 K s
            generalize hK : mm_fl _ _ _ _ = K
            generalize hM : mm_up (mm_up K 101 s _) 102 s _ = M
            rw [← ez M]
            refine lm_sheet hs4 ?_ 40 0 (by omega) trivial
            obtain ⟨z1, z2⟩ := sh_new (I := I) (s := s) (x := x) (b := 32) inv.2.2.2.2.1 hs4 (by omega) (by decide) hK.symm rfl
            have e1 : M 103 = K 103 := by rw [← hM, mm_up_ne _ _ _ _ _ (by decide), mm_up_ne _ _ _ _ _ (by decide)]
            rw [e1, ← hM]
            exact ⟨rfl, Inv_sh inv z1 z2⟩
          ·
            refine ev_ald0 k105_46 ?_
            refine ev_ldc k105_47 ?_
            refine ev_cV2i k105_49 cs_174 (by first | assumption | rfl) (by omega) (Nat.le_of_ble_eq_true rfl) rfl rfl rfl ?_
            refine sp_error (k := 1) (by decide) (by decide) (by decide) ?_
            refine ev_ri k105_52 rfl ?_
            refine hQ _ _ ?_
            show mm_Ev mm_T0 X (d + 60) 230 0 [.ref 91, .int _, .int _, .int _, .retAddr 0] [] _ (mm_pi _)
            refine ev_ild1 k230_0 ?_
            refine ev_cS1i k230_1 cs_273 rfl rfl rfl ?_
            refine sm_isSheet ?_
            refine ev_ifz_eq k230_4 (fun g4 => Bool.noConfusion (Eq.trans (Eq.symm h4) g4)) (fun g4 => ?_)
            refine ev_ild2 k230_7 ?_
            refine ev_if_eq k230_8 (fun g8 => absurd g8 (by decide)) (fun g8 => ?_)
            refine ev_ild2 k230_11 ?_
            refine ev_bipush k230_12 ?_
            refine ev_icmp_eq k230_14 (fun g14 => absurd g14 (by decide)) (fun g14 => ?_)
            refine ev_ild2 k230_17 ?_
            refine ev_bipush k230_18 ?_
            refine ev_icmp_eq k230_20 (fun g20 => absurd g20 (by decide)) (fun g20 => ?_)
            refine ev_ild2 k230_23 ?_
            refine ev_bipush k230_24 ?_
            refine ev_icmp_eq k230_26 (fun g26 => ?_) (fun g26 => absurd rfl g26)
            refine ev_ild2 k230_36 ?_
            refine ev_jf_le k230_37 (fun g37 => absurd (by decide) g37) (fun g37 => ?_)
            refine ev_ild3 k230_40 ?_
            refine ev_jf_ge k230_41 (fun g41 => ?_) (fun g41 => absurd g41 h26)
            refine ev_ild2 k230_51 ?_
            refine ev_jf_le k230_52 (fun g52 => absurd (by decide) g52) (fun g52 => ?_)
            refine ev_ild3 k230_55 ?_
            refine ev_bipush k230_56 ?_
            refine ev_jcmp_le k230_58 (fun g58 => absurd h43 g58) (fun g58 => ?_)
            refine ev_ald0 k230_61 ?_
            refine ev_ldc k230_62 ?_
            refine ev_cV2i k230_64 cs_238 (by first | assumption | rfl) (by omega) (Nat.le_of_ble_eq_true rfl) rfl rfl rfl ?_
            refine sm_error (k := 1) (by decide) (by decide) ?_
            refine ev_ri k230_67 rfl ?_
            first | exact ⟨rfl, Inv_e rfl rfl inv⟩ | exact ⟨rfl, inv⟩
        ·
          refine ev_ald0 k105_29 ?_
          refine ev_ldc k105_30 ?_
          refine ev_cV2i k105_32 cs_174 (by first | assumption | rfl) (by omega) (Nat.le_of_ble_eq_true rfl) rfl rfl rfl ?_
          refine sp_error (k := 3) (by decide) (by decide) (by decide) ?_
          refine ev_ri k105_35 rfl ?_
          refine hQ _ _ ?_
          show mm_Ev mm_T0 X (d + 60) 230 0 [.ref 91, .int _, .int _, .int _, .retAddr 0] [] _ (mm_pi _)
          refine ev_ild1 k230_0 ?_
          refine ev_cS1i k230_1 cs_273 rfl rfl rfl ?_
          refine sm_isSheet ?_
          refine ev_ifz_eq k230_4 (fun g4 => Bool.noConfusion (Eq.trans (Eq.symm h4) g4)) (fun g4 => ?_)
          refine ev_ild2 k230_7 ?_
          refine ev_if_eq k230_8 (fun g8 => absurd g8 (by decide)) (fun g8 => ?_)
          refine ev_ild2 k230_11 ?_
          refine ev_bipush k230_12 ?_
          refine ev_icmp_eq k230_14 (fun g14 => absurd g14 (by decide)) (fun g14 => ?_)
          refine ev_ild2 k230_17 ?_
          refine ev_bipush k230_18 ?_
          refine ev_icmp_eq k230_20 (fun g20 => absurd g20 (by decide)) (fun g20 => ?_)
          refine ev_ild2 k230_23 ?_
          refine ev_bipush k230_24 ?_
          refine ev_icmp_eq k230_26 (fun g26 => ?_) (fun g26 => absurd rfl g26)
          refine ev_ild2 k230_36 ?_
          refine ev_jf_le k230_37 (fun g37 => absurd (by decide) g37) (fun g37 => ?_)
          refine ev_ild3 k230_40 ?_
          refine ev_jf_ge k230_41 (fun g41 => absurd h26 g41) (fun g41 => ?_)
          refine ev_ald0 k230_44 ?_
          refine ev_ldc k230_45 ?_
          refine ev_cV2i k230_47 cs_238 (by first | assumption | rfl) (by omega) (Nat.le_of_ble_eq_true rfl) rfl rfl rfl ?_
          refine sm_error (k := 3) (by decide) (by decide) ?_
          refine ev_ri k230_50 rfl ?_
          first | exact ⟨rfl, Inv_e rfl rfl inv⟩ | exact ⟨rfl, inv⟩
    ·
      refine ev_ald0 k105_14 ?_
      refine ev_ldc k105_15 ?_
      refine ev_cV2i k105_17 cs_174 (by first | assumption | rfl) (by omega) (Nat.le_of_ble_eq_true rfl) rfl rfl rfl ?_
      refine sp_error (k := 1) (by decide) (by decide) (by decide) ?_
      refine ev_ri k105_20 rfl ?_
      refine hQ _ _ ?_
      show mm_Ev mm_T0 X (d + 60) 230 0 [.ref 91, .int _, .int _, .int _, .retAddr 0] [] _ (mm_pi _)
      refine ev_ild1 k230_0 ?_
      refine ev_cS1i k230_1 cs_273 rfl rfl rfl ?_
      refine sm_isSheet ?_
      refine ev_ifz_eq k230_4 (fun g4 => Bool.noConfusion (Eq.trans (Eq.symm h4) g4)) (fun g4 => ?_)
      refine ev_ild2 k230_7 ?_
      refine ev_if_eq k230_8 (fun g8 => absurd g8 (nbits h11).1) (fun g8 => ?_)
      refine ev_ild2 k230_11 ?_
      refine ev_bipush k230_12 ?_
      refine ev_icmp_eq k230_14 (fun g14 => absurd g14 (nbits h11).2.1) (fun g14 => ?_)
      refine ev_ild2 k230_17 ?_
      refine ev_bipush k230_18 ?_
      refine ev_icmp_eq k230_20 (fun g20 => absurd g20 (nbits h11).2.2.1) (fun g20 => ?_)
      refine ev_ild2 k230_23 ?_
      refine ev_bipush k230_24 ?_
      refine ev_icmp_eq k230_26 (fun g26 => absurd g26 (nbits h11).2.2.2) (fun g26 => ?_)
      refine ev_ald0 k230_29 ?_
      refine ev_ldc k230_30 ?_
      refine ev_cV2i k230_32 cs_238 (by first | assumption | rfl) (by omega) (Nat.le_of_ble_eq_true rfl) rfl rfl rfl ?_
      refine sm_error (k := 1) (by decide) (by decide) ?_
      refine ev_ri k230_35 rfl ?_
      first | exact ⟨rfl, Inv_e rfl rfl inv⟩ | exact ⟨rfl, inv⟩
