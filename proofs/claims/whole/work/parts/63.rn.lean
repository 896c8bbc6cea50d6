/-! The reference: what stands in brackets; one operand; all depths -/
theorem sm_opQ {X : Nat × (Nat → Int32)} {J : mm_I} {g : Nat → Int32} {u L k : Nat} {D p : Nat} {l : List Int32} {K : mm_I} {P : mm_I → Prop} (hb : mdB J g u L) (hk5 : k + 1 ≤ 5) (ih : opM X J g u L k) (hD : 6 + 7 * k + 6 ≤ D + 6) (hpL : p < L) (hl : l.length ≤ p) (h : mdE J K (5 - (k + 1)) p l) (hQ1 : (clo g (pLv (pOp g u k) g 5 (p + 1))).2.2 = true → ∀ K', mdE J K' (5 - (k + 1)) (clo g (pLv (pOp g u k) g 5 (p + 1))).1 ((clo g (pLv (pOp g u k) g 5 (p + 1))).2.1 ++ l) → P K') (hQ2 : (clo g (pLv (pOp g u k) g 5 (p + 1))).2.2 = false → ∀ K', mdF J K' (clo g (pLv (pOp g u k) g 5 (p + 1))).1 → P K') : mm_Ev mm_T0 X (D + 6) 175 0 (mm_ent 175 [.ref 91, .int 40]) [] K (mm_pv P) := by
  show mm_Ev mm_T0 X (D + 6) 175 0 [.ref 91, .int 40] [] K (mm_pv P)
  have tm := tM
  have tr := tR
  have hL := hb.1.1
  refine ev_ald0 k175_0 ?_
  refine ev_gfv (j := 11) k175_1 (by first | assumption | rfl) rfl rfl rfl rfl h.2.2.2.2.1 ?_
  refine ev_iconst k175_4 ?_
  refine ev_icmp_ne k175_5 (fun h5 => ?_) (fun h5 => absurd ((nI_eq (show 5 - (k + 1) < 2 ^ 31 by omega) (show 5 < 2 ^ 31 by decide)).mp h5) (by omega))
  refine ev_ald0 k175_14 ?_
  refine ev_dup k175_15 rfl ?_
  refine ev_gfv (j := 11) k175_16 (by first | assumption | rfl) rfl rfl rfl rfl h.2.2.2.2.1 ?_
  refine ev_iconst k175_19 ?_
  refine ev_iadd k175_20 ?_
  rw [show nI (5 - (k + 1)) + 1 = nI (5 - k) from by rw [nI_1]; exact congrArg nI (by omega)]
  refine ev_pf (j := 11) k175_21 (by first | assumption | rfl) rfl rfl rfl ?_
  refine ev_ald0 k175_24 ?_
  refine ev_dup k175_25 rfl ?_
  refine ev_gfv (j := 10) k175_26 (by first | assumption | rfl) rfl rfl rfl rfl (show _ = nI p from by rw [mm_up_at, if_neg (by omega)]; exact h.2.2.2.1) ?_
  refine ev_iconst k175_29 ?_
  refine ev_iadd k175_30 ?_
  rw [nI_1]
  refine ev_pf (j := 10) k175_31 (by first | assumption | rfl) rfl rfl rfl ?_
  refine ev_ild1 k175_34 ?_
  refine ev_bipush k175_35 ?_
  refine ev_icmp_ne k175_37 (fun h37 => ?_) (fun h37 => absurd h37 (by decide))
  refine ev_ald0 k175_53 ?_
  refine ev_cV1v k175_54 cs_249 rfl (by omega) (Nat.le_of_ble_eq_true rfl) rfl rfl rfl ?_
  have hok := pLv_ok hb.1 (pOp_ok (u := u) hb.1 k) 5 (by omega) (p + 1) (by omega)
  refine lvM_all hb ih _ (p + 1) l _ _ (by omega) (by omega) (by omega) (mdE_up (op' := 5 - k) (mdE_up (op' := 5 - k) (p' := p) h (Or.inr ⟨rfl, rfl, rfl⟩)) (p' := p + 1) (Or.inl ⟨rfl, rfl, rfl⟩)) (fun hk K1 h1 => ?_) (fun hk K1 h1 => ?_)
  ·
    refine ev_ald0 k175_57 ?_
    refine ev_ald0 k175_58 ?_
    refine ev_gfv (j := 12) k175_59 (by first | assumption | rfl) rfl rfl rfl rfl h1.2.2.2.2.2.1 ?_
    refine ev_if_ne k175_62 (fun h62 => absurd rfl h62) (fun h62 => ?_)
    refine ev_ald0 k175_65 ?_
    refine ev_cV1i k175_66 cs_246 (by first | assumption | rfl) (by omega) (Nat.le_of_ble_eq_true rfl) rfl rfl rfl ?_
    refine sm_look hb (h1.1 92 (by decide) (by decide) (by decide)) h1.2.2.2.1 hok.2.1 ?_
    refine ev_bipush k175_69 ?_
    refine ev_icmp_eq k175_71 (fun h71 => ?_) (fun h71 => ?_)
    ·
      refine ev_iconst k175_78 ?_
      refine ev_pz (j := 12) k175_79 (by first | assumption | rfl) rfl rfl (by first | exact Or.inl rfl | exact Or.inr rfl | assumption) rfl ?_
      rw [mdE_ok h1]
      refine ev_ald0 k175_82 ?_
      refine ev_dup k175_83 rfl ?_
      refine ev_gfv (j := 10) k175_84 (by first | assumption | rfl) rfl rfl rfl rfl h1.2.2.2.1 ?_
      refine ev_ald0 k175_87 ?_
      refine ev_gfv (j := 12) k175_88 (by first | assumption | rfl) rfl rfl rfl rfl h1.2.2.2.2.2.1 ?_
      refine ev_if_eq k175_91 (fun h91 => ?_) (fun h91 => absurd rfl h91)
      refine ev_iconst k175_98 ?_
      refine ev_iadd k175_99 ?_
      rw [nI_1]
      refine ev_pf (j := 10) k175_100 (by first | assumption | rfl) rfl rfl rfl ?_
      refine ev_ald0 k175_103 ?_
      refine ev_dup k175_104 rfl ?_
      refine ev_gfv (j := 11) k175_105 (by first | assumption | rfl) rfl rfl rfl rfl (show _ = nI (5 - k) from by rw [mm_up_at, if_neg (by omega)]; exact h1.2.2.2.2.1) ?_
      refine ev_iconst k175_108 ?_
      refine ev_isub k175_109 ?_
      rw [show nI (5 - k) - 1 = nI (5 - (k + 1)) from by rw [show (1 : Int32) = nI 1 from rfl, pk_sub (by omega)]; exact congrArg nI (by omega)]
      refine ev_pf (j := 11) k175_110 (by first | assumption | rfl) rfl rfl rfl ?_
      refine ev_rv k175_113 rfl ?_
      have en : clo g (pLv (pOp g u k) g 5 (p + 1)) = ((pLv (pOp g u k) g 5 (p + 1)).1 + 1, (pLv (pOp g u k) g 5 (p + 1)).2.1, true) := (if_pos hk).trans (if_pos h71)
      rw [en] at hQ1
      exact hQ1 rfl _ (mdE_up (op' := 5 - (k + 1)) (mdE_up (op' := 5 - k) (p' := (pLv (pOp g u k) g 5 (p + 1)).1 + 1) h1 (Or.inl ⟨rfl, rfl, rfl⟩)) (Or.inr ⟨rfl, rfl, rfl⟩))
    ·
      refine ev_iconst k175_74 ?_
      refine ev_goto k175_75 ?_
      refine ev_pz (j := 12) k175_79 (by first | assumption | rfl) rfl rfl (by first | exact Or.inl rfl | exact Or.inr rfl | assumption) rfl ?_
      have hF := mdE_bad (by have := hok.2.2 hk; have := hok.2.1; simp only [List.length_append]; omega) h1
      generalize mm_up K1 91 12 1 = K2 at hF ⊢
      refine ev_ald0 k175_82 ?_
      refine ev_dup k175_83 rfl ?_
      refine ev_gfv (j := 10) k175_84 (by first | assumption | rfl) rfl rfl rfl rfl hF.2.2.1 ?_
      refine ev_ald0 k175_87 ?_
      refine ev_gfv (j := 12) k175_88 (by first | assumption | rfl) rfl rfl rfl rfl hF.2.2.2.1 ?_
      refine ev_if_eq k175_91 (fun h91 => absurd h91 (by decide)) (fun h91 => ?_)
      refine ev_iconst k175_94 ?_
      refine ev_goto k175_95 ?_
      refine ev_iadd k175_99 ?_
      rw [Int32.add_zero]
      refine ev_pf (j := 10) k175_100 (by first | assumption | rfl) rfl rfl rfl ?_
      refine ev_ald0 k175_103 ?_
      refine ev_dup k175_104 rfl ?_
      refine ev_gf (j := 11) k175_105 (by first | assumption | rfl) rfl rfl rfl rfl ?_
      refine ev_iconst k175_108 ?_
      refine ev_isub k175_109 ?_
      refine ev_pf (j := 11) k175_110 (by first | assumption | rfl) rfl rfl rfl ?_
      refine ev_rv k175_113 rfl ?_
      have en : clo g (pLv (pOp g u k) g 5 (p + 1)) = ((pLv (pOp g u k) g 5 (p + 1)).1, [], false) := (if_pos hk).trans (if_neg h71)
      rw [en] at hQ2
      exact hQ2 rfl _ (mdF_up (mdF_up hF (Or.inr (Or.inr ⟨rfl, rfl⟩))) (Or.inl rfl))
  ·
    refine ev_ald0 k175_57 ?_
    refine ev_ald0 k175_58 ?_
    refine ev_gfv (j := 12) k175_59 (by first | assumption | rfl) rfl rfl rfl rfl h1.2.2.2.1 ?_
    refine ev_if_ne k175_62 (fun h62 => ?_) (fun h62 => absurd h62 (by decide))
    refine ev_iconst k175_74 ?_
    refine ev_goto k175_75 ?_
    refine ev_pz (j := 12) k175_79 (by first | assumption | rfl) rfl rfl (by first | exact Or.inl rfl | exact Or.inr rfl | assumption) rfl ?_
    have hF := mdF_up (q := 12) (x := 1) h1 (Or.inr (Or.inl ⟨rfl, rfl⟩))
    generalize mm_up K1 91 12 1 = K2 at hF ⊢
    refine ev_ald0 k175_82 ?_
    refine ev_dup k175_83 rfl ?_
    refine ev_gfv (j := 10) k175_84 (by first | assumption | rfl) rfl rfl rfl rfl hF.2.2.1 ?_
    refine ev_ald0 k175_87 ?_
    refine ev_gfv (j := 12) k175_88 (by first | assumption | rfl) rfl rfl rfl rfl hF.2.2.2.1 ?_
    refine ev_if_eq k175_91 (fun h91 => absurd h91 (by decide)) (fun h91 => ?_)
    refine ev_iconst k175_94 ?_
    refine ev_goto k175_95 ?_
    refine ev_iadd k175_99 ?_
    rw [Int32.add_zero]
    refine ev_pf (j := 10) k175_100 (by first | assumption | rfl) rfl rfl rfl ?_
    refine ev_ald0 k175_103 ?_
    refine ev_dup k175_104 rfl ?_
    refine ev_gf (j := 11) k175_105 (by first | assumption | rfl) rfl rfl rfl rfl ?_
    refine ev_iconst k175_108 ?_
    refine ev_isub k175_109 ?_
    refine ev_pf (j := 11) k175_110 (by first | assumption | rfl) rfl rfl rfl ?_
    refine ev_rv k175_113 rfl ?_
    have en : clo g (pLv (pOp g u k) g 5 (p + 1)) = ((pLv (pOp g u k) g 5 (p + 1)).1, [], false) := if_neg (by rw [hk]; decide)
    rw [en] at hQ2
    exact hQ2 rfl _ (mdF_up (mdF_up hF (Or.inr (Or.inr ⟨rfl, rfl⟩))) (Or.inl rfl))
theorem opM_all {X : Nat × (Nat → Int32)} {J : mm_I} {g : Nat → Int32} {u L : Nat} (hb : mdB J g u L) : ∀ k, k ≤ 5 → opM X J g u L k := by
  have tm := tM
  have tr := tR
  have hL := hb.1.1
  intro k
  induction k with
  | zero =>
    intro _ D p l K P hD hp hl h hQ1 hQ2
    obtain ⟨D', rfl⟩ : ∃ D', D = D' + 6 := ⟨D - 6, by omega⟩
    show mm_Ev mm_T0 X (D' + 6) 176 0 [.ref 91, .retAddr 0, .retAddr 0] [] K (mm_pv P)
    refine ev_ald0 k176_0 ?_
    refine ev_cV1i k176_1 cs_246 (by first | assumption | rfl) (by omega) (Nat.le_of_ble_eq_true rfl) rfl rfl rfl ?_
    refine sm_look hb (h.1 92 (by decide) (by decide) (by decide)) h.2.2.2.1 hp ?_
    refine ev_ist1 k176_4 rfl ?_
    refine ev_ald0 k176_5 ?_
    refine ev_ild1 k176_6 ?_
    refine ev_cV2i k176_7 cs_250 (by first | assumption | rfl) (by omega) (Nat.le_of_ble_eq_true rfl) rfl rfl rfl ?_
    refine sm_nameOf hb.2.1 (by rw [h.2.1 13 (by decide) (by decide) (by decide) (by decide)]; exact hb.2.2.1) ?_
    refine ev_ist2 k176_10 rfl ?_
    refine ev_ild2 k176_11 ?_
    refine ev_if_lt k176_12 (fun h12 => ?_) (fun h12 => ?_)
    ·
      refine ev_ild1 k176_34 ?_
      refine ev_bipush k176_35 ?_
      refine ev_icmp_eq k176_37 (fun h37 => ?_) (fun h37 => ?_)
      ·
        have hdn := dgn (x := g p) (Or.inl h37) u
        have hpl : p < L := g_lt hb.1 (fun w => absurd (w.symm.trans h37) (by decide))
        refine ev_ald0 k176_46 ?_
        refine ev_ild1 k176_47 ?_
        refine ev_cV2v k176_48 cs_251 rfl (by omega) (Nat.le_of_ble_eq_true rfl) rfl rfl rfl ?_
        refine sm_opens0 (by omega) h (fun K2 h2 => ?_)
        refine ev_goto k176_51 ?_
        refine ev_rv k176_58 rfl ?_
        rw [pOp_0 hdn.1 hdn.2] at hQ2
        exact hQ2 rfl K2 h2
      ·
        refine ev_ild1 k176_40 ?_
        refine ev_bipush k176_41 ?_
        refine ev_icmp_ne k176_43 (fun h43 => ?_) (fun h43 => ?_)
        ·
          refine ev_ald0 k176_54 ?_
          refine ev_cV1v k176_55 cs_252 rfl (by omega) (Nat.le_of_ble_eq_true rfl) rfl rfl rfl ?_
          refine sm_number hb hl hp h (fun hd K2 h2 => ?_) (fun hd K2 h2 => ?_)
          · refine ev_rv k176_58 rfl ?_
            rw [pOp_d hd] at hQ1
            exact hQ1 rfl K2 h2
          · refine ev_rv k176_58 rfl ?_
            rw [pOp_0 hd h12] at hQ2
            exact hQ2 rfl K2 h2
        ·
          have hdn := dgn (x := g p) (Or.inr h43) u
          have hpl : p < L := g_lt hb.1 (fun w => absurd (w.symm.trans h43) (by decide))
          refine ev_ald0 k176_46 ?_
          refine ev_ild1 k176_47 ?_
          refine ev_cV2v k176_48 cs_251 rfl (by omega) (Nat.le_of_ble_eq_true rfl) rfl rfl rfl ?_
          refine sm_opens0 (by omega) h (fun K2 h2 => ?_)
          refine ev_goto k176_51 ?_
          refine ev_rv k176_58 rfl ?_
          rw [pOp_0 hdn.1 hdn.2] at hQ2
          exact hQ2 rfl K2 h2
    ·
      refine ev_ald0 k176_15 ?_
      refine ev_dup k176_16 rfl ?_
      refine ev_gfv (j := 10) k176_17 (by first | assumption | rfl) rfl rfl rfl rfl h.2.2.2.1 ?_
      refine ev_iconst k176_20 ?_
      refine ev_iadd k176_21 ?_
      rw [nI_1]
      refine ev_pf (j := 10) k176_22 (by first | assumption | rfl) rfl rfl rfl ?_
      refine ev_ald0 k176_25 ?_
      refine ev_iconst k176_26 ?_
      refine ev_ild2 k176_27 ?_
      refine ev_cV3v k176_28 cs_247 (by first | assumption | rfl) (by omega) (Nat.le_of_ble_eq_true rfl) rfl rfl rfl ?_
      obtain ⟨⟨k0, hk0, ek⟩, hdg⟩ := nm_k h12
      have hpl : p < L := g_lt hb.1 (fun w => h12 (by rw [w]; exact nm_m1 u))
      refine sm_step (s := -1 - nm u (g p)) (mdE_up (op' := 5 - 0) (p' := p + 1) h (Or.inl ⟨rfl, rfl, rfl⟩)) (by omega) (Or.inr (Or.inl ⟨k0, hk0, by rw [ek], rfl, ek⟩)) (fun K2 h2 => ?_)
      refine ev_goto k176_31 ?_
      refine ev_rv k176_58 rfl ?_
      rw [pOp_n (nm_k h12).2 h12] at hQ1
      exact hQ1 rfl K2 h2
  | succ k ih0 =>
    intro hk5 D p l K P hD hp hl h hQ1 hQ2
    have ih := ih0 (by omega)
    obtain ⟨D', rfl⟩ : ∃ D', D = D' + 8 := ⟨D - 8, by omega⟩
    show mm_Ev mm_T0 X (D' + 8) 176 0 [.ref 91, .retAddr 0, .retAddr 0] [] K (mm_pv P)
    refine ev_ald0 k176_0 ?_
    refine ev_cV1i k176_1 cs_246 (by first | assumption | rfl) (by omega) (Nat.le_of_ble_eq_true rfl) rfl rfl rfl ?_
    refine sm_look hb (h.1 92 (by decide) (by decide) (by decide)) h.2.2.2.1 hp ?_
    refine ev_ist1 k176_4 rfl ?_
    refine ev_ald0 k176_5 ?_
    refine ev_ild1 k176_6 ?_
    refine ev_cV2i k176_7 cs_250 (by first | assumption | rfl) (by omega) (Nat.le_of_ble_eq_true rfl) rfl rfl rfl ?_
    refine sm_nameOf hb.2.1 (by rw [h.2.1 13 (by decide) (by decide) (by decide) (by decide)]; exact hb.2.2.1) ?_
    refine ev_ist2 k176_10 rfl ?_
    refine ev_ild2 k176_11 ?_
    refine ev_if_lt k176_12 (fun h12 => ?_) (fun h12 => ?_)
    ·
      refine ev_ild1 k176_34 ?_
      refine ev_bipush k176_35 ?_
      refine ev_icmp_eq k176_37 (fun h37 => ?_) (fun h37 => ?_)
      ·
        have hdn := dgn (x := g p) (Or.inl h37) u
        have hpl : p < L := g_lt hb.1 (fun w => absurd (w.symm.trans h37) (by decide))
        refine ev_ald0 k176_46 ?_
        refine ev_ild1 k176_47 ?_
        refine ev_cV2v k176_48 cs_251 rfl (by omega) (Nat.le_of_ble_eq_true rfl) rfl rfl rfl ?_
        have en : pOp g u (k + 1) p = nt (pOp g u k (p + 1)) := by rw [pOp_s hdn.1 hdn.2, if_pos h37]
        rw [en] at hQ1 hQ2
        rw [h37]
        refine sm_opX (D := D' + 1) hb hk5 ih (by omega) hpl hl h (fun hk K2 h2 => ?_) (fun hk K2 h2 => ?_)
        · refine ev_goto k176_51 ?_
          refine ev_rv k176_58 rfl ?_
          exact hQ1 hk K2 h2
        · refine ev_goto k176_51 ?_
          refine ev_rv k176_58 rfl ?_
          exact hQ2 hk K2 h2
      ·
        refine ev_ild1 k176_40 ?_
        refine ev_bipush k176_41 ?_
        refine ev_icmp_ne k176_43 (fun h43 => ?_) (fun h43 => ?_)
        ·
          refine ev_ald0 k176_54 ?_
          refine ev_cV1v k176_55 cs_252 rfl (by omega) (Nat.le_of_ble_eq_true rfl) rfl rfl rfl ?_
          refine sm_number hb hl hp h (fun hd K2 h2 => ?_) (fun hd K2 h2 => ?_)
          · refine ev_rv k176_58 rfl ?_
            rw [pOp_d hd] at hQ1
            exact hQ1 rfl K2 h2
          · refine ev_rv k176_58 rfl ?_
            rw [pOp_s hd h12, if_neg h37, if_neg h43] at hQ2
            exact hQ2 rfl K2 h2
        ·
          have hdn := dgn (x := g p) (Or.inr h43) u
          have hpl : p < L := g_lt hb.1 (fun w => absurd (w.symm.trans h43) (by decide))
          refine ev_ald0 k176_46 ?_
          refine ev_ild1 k176_47 ?_
          refine ev_cV2v k176_48 cs_251 rfl (by omega) (Nat.le_of_ble_eq_true rfl) rfl rfl rfl ?_
          have en : pOp g u (k + 1) p = clo g (pLv (pOp g u k) g 5 (p + 1)) := by rw [pOp_s hdn.1 hdn.2, if_neg h37, if_pos h43]
          rw [en] at hQ1 hQ2
          rw [h43]
          refine sm_opQ (D := D' + 1) hb hk5 ih (by omega) hpl hl h (fun hk K2 h2 => ?_) (fun hk K2 h2 => ?_)
          · refine ev_goto k176_51 ?_
            refine ev_rv k176_58 rfl ?_
            exact hQ1 hk K2 h2
          · refine ev_goto k176_51 ?_
            refine ev_rv k176_58 rfl ?_
            exact hQ2 hk K2 h2
    ·
      refine ev_ald0 k176_15 ?_
      refine ev_dup k176_16 rfl ?_
      refine ev_gfv (j := 10) k176_17 (by first | assumption | rfl) rfl rfl rfl rfl h.2.2.2.1 ?_
      refine ev_iconst k176_20 ?_
      refine ev_iadd k176_21 ?_
      rw [nI_1]
      refine ev_pf (j := 10) k176_22 (by first | assumption | rfl) rfl rfl rfl ?_
      refine ev_ald0 k176_25 ?_
      refine ev_iconst k176_26 ?_
      refine ev_ild2 k176_27 ?_
      refine ev_cV3v k176_28 cs_247 (by first | assumption | rfl) (by omega) (Nat.le_of_ble_eq_true rfl) rfl rfl rfl ?_
      obtain ⟨⟨k0, hk0, ek⟩, hdg⟩ := nm_k h12
      have hpl : p < L := g_lt hb.1 (fun w => h12 (by rw [w]; exact nm_m1 u))
      refine sm_step (s := -1 - nm u (g p)) (mdE_up (op' := 5 - (k + 1)) (p' := p + 1) h (Or.inl ⟨rfl, rfl, rfl⟩)) (by omega) (Or.inr (Or.inl ⟨k0, hk0, by rw [ek], rfl, ek⟩)) (fun K2 h2 => ?_)
      refine ev_goto k176_31 ?_
      refine ev_rv k176_58 rfl ?_
      rw [pOp_n (nm_k h12).2 h12] at hQ1
      exact hQ1 rfl K2 h2
/-! What is read never takes more from the pile than there is -/
def ost (s : Int32) (m : Nat) : Prop := (¬ s < -3 → m < 50) ∧ (s < -3 → s = -33 → 0 < m) ∧ (s < -3 → ¬ s = -33 → 1 < m)
def okL : List Int32 → Nat → Nat → Prop
  | [], m, m' => m' = m
  | s :: r, m, m' => ∃ m1, okL r m m1 ∧ ost s m1 ∧ m' = cst s m1
theorem okL_app : ∀ (a b : List Int32) {m m1 m2 : Nat}, okL b m m1 → okL a m1 m2 → okL (a ++ b) m m2
  | [], b, m, m1, m2, hb, ha => by rw [List.nil_append]; have e : m2 = m1 := ha; rw [e]; exact hb
  | s :: r, b, m, m1, m2, hb, ⟨q, h1, h2, h3⟩ => ⟨q, okL_app r b hb h1, h2, h3⟩
theorem ost_push {s : Int32} {m : Nat} (h : ¬ s < -3) (hm : m < 50) : ost s m ∧ cst s m = m + 1 := ⟨⟨fun _ => hm, fun z => absurd z h, fun z => absurd z h⟩, if_neg h⟩
theorem sgn_ok {c : Int32} {j : Nat} (hj : j ≤ 4) (h : lvO c = nI (4 - j)) (m : Nat) (hm : 1 < m) : ost (-c) m ∧ cst (-c) m = m - 1 := by
  have hc : c ∈ ([37, 38, 42, 43, 45, 47, 60, 61, 62, 124] : List Int32) := by
    rcases (show j = 0 ∨ j = 1 ∨ j = 2 ∨ j = 3 ∨ j = 4 by omega) with rfl | rfl | rfl | rfl | rfl
    · rcases (lvO_4 c).mp h with rfl | rfl | rfl <;> decide
    · rcases (lvO_3 c).mp h with rfl | rfl <;> decide
    · rcases (lvO_2 c).mp h with rfl | rfl | rfl <;> decide
    · have := (lvO_1 c).mp h; subst this; decide
    · have := (lvO_0 c).mp h; subst this; decide
  obtain ⟨⟨a, b⟩, -⟩ := sg_neg c hc
  exact ⟨⟨fun z => absurd a z, fun _ z => absurd z b, fun _ _ => hm⟩, by unfold cst; rw [if_pos a, if_neg b]⟩
def rdK (L : Nat) (p : Nat) (r : pR) : Prop := ∀ m, m ≤ p → r.2.2 = true → okL r.2.1 m (m + 1)
theorem pLp_k {g : Nat → Int32} {L j : Nat} {inner : Nat → pR} (h : gOK g L) (hj : j ≤ 4) (hi : ∀ p, p ≤ L → rOK L p (inner p)) (hk : ∀ p, p ≤ L → rdK L p (inner p)) : ∀ (n p : Nat) (l : List Int32) (m : Nat), p ≤ L → m < p → okL l m (m + 1) → (pLp inner g (nI (4 - j)) n p l).2.2 = true → okL (pLp inner g (nI (4 - j)) n p l).2.1 m (m + 1) := by
  intro n
  induction n with
  | zero => intro p l m hp hm hl _; exact hl
  | succ n ih =>
    intro p l m hp hm hl
    unfold pLp
    by_cases z : lvO (g p) = nI (4 - j)
    · rw [if_pos z]
      have hlt : p < L := g_lt h (fun w => lvO_m1 hj (by rw [← w]; exact z))
      obtain ⟨a, b, c⟩ := hi (p + 1) (by omega)
      by_cases w : (inner (p + 1)).2.2 = true
      · rw [if_pos w]
        have q := hk (p + 1) (by omega) (m + 1) (by omega) w
        obtain ⟨s1, s2⟩ := sgn_ok hj z (m + 1 + 1) (by omega)
        exact ih _ _ m b (by have := c w; omega) ⟨m + 1 + 1, okL_app _ _ hl q, s1, by rw [s2]; rfl⟩
      · rw [if_neg w]; intro t; cases t
    · rw [if_neg z]; intro _; exact hl
theorem pLv_k {g : Nat → Int32} {L : Nat} {op : Nat → pR} (h : gOK g L) (hi : ∀ p, p ≤ L → rOK L p (op p)) (hk : ∀ p, p ≤ L → rdK L p (op p)) : ∀ j, j ≤ 5 → ∀ p, p ≤ L → rdK L p (pLv op g j p) := by
  intro j
  induction j with
  | zero => intro _ p hp; exact hk p hp
  | succ j ih =>
    intro hj p hp m hm
    have q := ih (by omega) p hp m hm
    have r := pLv_ok h hi j (by omega) p hp
    unfold pLv
    by_cases w : (pLv op g j p).2.2 = true
    · rw [if_pos w]
      exact pLp_k h (by omega) (pLv_ok h hi j (by omega)) (ih (by omega)) _ _ _ m r.2.1 (by have := r.2.2 w; omega) (q w)
    · rw [if_neg w]; intro t; cases t
theorem pO1_k {g : Nat → Int32} {L u p : Nat} {r : pR} (h : gOK g L) (hp : p ≤ L) (hr : rdK L p r) : rdK L p (pO1 g u p r) := by
  have hL := h.1
  intro m hm
  unfold pO1
  by_cases z : dg (g p) = true
  · rw [if_pos z]
    intro _
    have hl := dg_lt h z
    have hv := pNum_v (g := g) 4 0 p 0 (by omega) (by decide)
    have hn : ¬ nI (pNum g 4 p 0).2 < -3 := fun w => nI_pos (show (pNum g 4 p 0).2 < 2 ^ 31 by omega) (Int32.lt_trans w (by decide))
    obtain ⟨a, b⟩ := ost_push hn (show m < 50 by omega)
    exact ⟨m, rfl, a, b.symm⟩
  · rw [if_neg z]
    by_cases w : nm u (g p) < 0
    · rw [if_pos w]; exact hr m hm
    · rw [if_neg w]
      intro _
      have hl : p < L := g_lt h (fun t => w (by rw [t]; exact nm_m1 u))
      obtain ⟨⟨k, hk, ek⟩, -⟩ := nm_k w
      have hn : ¬ -1 - nm u (g p) < -3 := by
        rw [ek]
        rcases (show k = 0 ∨ k = 1 ∨ k = 2 by omega) with rfl | rfl | rfl <;> decide
      obtain ⟨a, b⟩ := ost_push hn (show m < 50 by omega)
      exact ⟨m, rfl, a, b.symm⟩
theorem pOp_k {g : Nat → Int32} {L u : Nat} (h : gOK g L) : ∀ k p, p ≤ L → rdK L p (pOp g u k p) := by
  intro k
  induction k with
  | zero => intro p hp; exact pO1_k h hp (fun m _ t => by cases t)
  | succ k ih =>
    intro p hp
    refine pO1_k h hp (fun m hm => ?_)
    by_cases z : g p = 33
    · rw [if_pos z]
      have hl : p < L := g_lt h (fun w => by rw [w] at z; exact absurd z (by decide))
      have q := ih (p + 1) (by omega) m (by omega)
      unfold nt
      by_cases w : (pOp g u k (p + 1)).2.2 = true
      · rw [if_pos w]
        intro _
        exact ⟨m + 1, q w, ⟨fun t => absurd (by decide) t, fun _ _ => by omega, fun _ t => absurd rfl t⟩, rfl⟩
      · rw [if_neg w]; intro t; cases t
    · rw [if_neg z]
      by_cases z2 : g p = 40
      · rw [if_pos z2]
        have hl : p < L := g_lt h (fun w => by rw [w] at z2; exact absurd z2 (by decide))
        have q := pLv_k h (pOp_ok (u := u) h k) ih 5 (by omega) (p + 1) (by omega) m (by omega)
        unfold clo
        by_cases w : (pLv (pOp g u k) g 5 (p + 1)).2.2 = true
        · rw [if_pos w]
          by_cases z3 : g (pLv (pOp g u k) g 5 (p + 1)).1 = 41
          · rw [if_pos z3]; intro _; exact q w
          · rw [if_neg z3]; intro t; cases t
        · rw [if_neg w]; intro t; cases t
      · rw [if_neg z2]; intro t; cases t
theorem okS_app {f : Nat → Int32} : ∀ (n i m : Nat), okS f n i m → ost (f (i + n)) (fo (fun i m => cst (f i) m) n i m) → okS f (n + 1) i m := by
  intro n
  induction n with
  | zero => intro i m _ h; exact ⟨h, trivial⟩
  | succ n ih =>
    intro i m h1 h2
    refine ⟨h1.1, ih (i + 1) _ h1.2 ?_⟩
    rw [show i + 1 + n = i + (n + 1) by omega]
    exact h2
theorem fo_s {α : Type} (f : Nat → α → α) : ∀ (n i : Nat) (a : α), fo f (n + 1) i a = f (i + n) (fo f n i a) := by
  intro n
  induction n with
  | zero => intro i a; rfl
  | succ n ih =>
    intro i a
    show fo f (n + 1) (i + 1) (f i a) = f (i + (n + 1)) (fo f n (i + 1) (f i a))
    rw [ih (i + 1) (f i a), show i + 1 + n = i + (n + 1) by omega]
theorem okL_S {f : Nat → Int32} : ∀ (l : List Int32) (m' : Nat), tcL f l → okL l 0 m' → okS f l.length 0 0 ∧ fo (fun i m => cst (f i) m) l.length 0 0 = m'
  | [], m', _, h => ⟨trivial, (show m' = 0 from h).symm⟩
  | s :: r, m', h, ⟨m1, h1, h2, h3⟩ => by
    obtain ⟨a, b⟩ := okL_S r m1 h.2 h1
    refine ⟨okS_app _ _ _ a ?_, ?_⟩
    · rw [Nat.zero_add, h.1, b]; exact h2
    · show fo (fun i m => cst (f i) m) (r.length + 1) 0 0 = m'
      rw [fo_s, Nat.zero_add, h.1, b]; exact h3.symm
theorem tc_mc {f a w : Nat → Int32} : ∀ (l : List Int32), tcL f l → mcL a w l → ∀ i, i < l.length → stR (f i) (a i) (w i)
  | [], _, _ => fun i hi => absurd hi (by simp)
  | s :: r, h, h' => fun i hi => by
    by_cases e : i = r.length
    · rw [e, h.1]; exact h'.1
    · exact tc_mc r h.2 h'.2 i (by simp at hi; omega)
