theorem lm_ldraw {X : Nat × (Nat → Int32)} {d : Nat} {J : mm_I} {np pp : Nat} {z v M i : Int32} {v3 : Value} {Q : Option Value → mm_I → Prop} (hn0 : 0 < np) (hp6 : np ≤ 6) (hpn : pp < np) (h1 : J 92 1 = z) (h3 : J 92 3 = nI np) (hpp : us (zA z) 8 - us (zA z) 8 / nI np * nI np = nI pp) (hv : us (zA (zA z)) 8 - us (zA (zA z)) 8 / 100 * 100 = v) (hQ : mm_Ev mm_T0 X (d + 20) 198 79 [.ref 91, .int M, .int i, .int (nI pp)] [] (mm_up (mm_up (mm_up J 92 1 (zA z)) 92 1 (zA (zA z))) 92 (31 + 3 * pp) v) Q) : mm_Ev mm_T0 X (d + 20) 198 54 [.ref 91, .int M, .int i, v3] [] J Q := by
  have tm := tM
  have tr := tR
  refine ev_ald0 k198_54 ?_
  refine ev_cV1i k198_55 cs_267 (by first | assumption | rfl) (by omega) (Nat.le_of_ble_eq_true rfl) rfl rfl rfl ?_
  refine sm_draw ?_
  rw [h1]
  refine ev_ald0 k198_58 ?_
  refine ev_getr k198_59 (by first | assumption | rfl) rfl rfl rfl ?_
  refine ev_iconst k198_62 ?_
  refine ev_ialv (j := 3) k198_63 (by first | assumption | rfl) (by omega) rfl (vp_dec rfl) (show _ = nI np from by rw [mm_up_at, if_neg (by omega)]; exact h3) ?_
  refine ev_irem k198_64 (fun w => absurd ((nI_eq (show np < 2 ^ 31 by omega) (show 0 < 2 ^ 31 by omega)).mp w) (by omega)) ?_
  rw [hpp]
  refine ev_ist3 k198_65 rfl ?_
  refine ev_ald0 k198_66 ?_
  refine ev_ild3 k198_67 ?_
  refine ev_iconst k198_68 ?_
  refine ev_ald0 k198_69 ?_
  refine ev_cV1i k198_70 cs_267 (by first | assumption | rfl) (by omega) (Nat.le_of_ble_eq_true rfl) rfl rfl rfl ?_
  refine sm_draw ?_
  rw [show mm_up J 92 1 (zA z) 92 1 = zA z from by rw [mm_up_at, if_pos ⟨rfl, rfl⟩]]
  refine ev_bipush k198_73 ?_
  refine ev_irem k198_75 (by decide) ?_
  refine ev_cV4v k198_76 cs_244 (by first | assumption | rfl) (by omega) (Nat.le_of_ble_eq_true rfl) rfl rfl rfl ?_
  rw [hv]
  refine sm_lets (w := 0) (show pp < 6 by omega) (by decide) ?_
  exact hQ
theorem lm_loose {X : Nat × (Nat → Int32)} {d : Nat} {I N : mm_I} {nc np M : Nat} {P : Int32 → mm_I → Prop} (hM : M ≤ 60) (hp6 : np ≤ 6) (hQ : ∀ K, HS (itD N nc np M) (K 92) nc np → (∀ k, k ≠ 92 → k ≠ 98 → k ≠ 99 → K k = I k) → P (itD N nc np M 0 15) K) : ∀ (n i : Nat) (J : mm_I) (v3 : Value), i + n = M → v3.category = 1 → HS (itD N nc np i) (J 92) nc np → (∀ k, k ≠ 92 → k ≠ 98 → k ≠ 99 → J k = I k) → mm_Ev mm_T0 X (d + 20) 198 40 [.ref 91, .int (nI M), .int (nI i), v3] [] J (mm_pi P) := by
  have tm := tM
  have tr := tR
  intro n
  induction n with
  | zero =>
    intro i J v3 hi hv3 H hf
    have e : i = M := by omega
    subst e
    refine ev_ild2 k198_40 ?_
    refine ev_ild1 k198_41 ?_
    refine ev_jcmp_ge k198_42 (fun h42 => ?_) (fun h42 => absurd h42 (nI_nlt (Nat.le_refl _) (by omega)))
    refine ev_ald0 k198_89 ?_
    refine ev_getr k198_90 (by first | assumption | rfl) rfl rfl rfl ?_
    refine ev_iconst k198_93 ?_
    refine ev_ialv (j := 4) k198_94 (by first | assumption | rfl) (by omega) rfl (vp_dec rfl) H.1.2.2.2.2.2 ?_
    refine ev_ri k198_95 rfl ?_
    exact hQ _ H hf
  | succ n ih =>
    intro i J v3 hi hv3 H hf
    have hlt : i < M := by omega
    obtain ⟨S, hS⟩ : ∃ S, itD N nc np i = S := ⟨_, rfl⟩
    have eS : itD N nc np (i + 1) = sN (dN S np) nc np := by rw [← hS]; rfl
    rw [hS] at H
    clear hS
    have step : ∀ (J : mm_I) (v3 : Value), v3.category = 1 → HS (dN S np) (J 92) nc np → (∀ k, k ≠ 92 → k ≠ 98 → k ≠ 99 → J k = I k) → mm_Ev mm_T0 X (d + 20) 198 79 [.ref 91, .int (nI M), .int (nI i), v3] [] J (mm_pi P) := by
      intro J v3 hv HJ hfJ
      refine ev_ald0 k198_79 ?_
      refine ev_cV1v k198_80 cs_265 (by first | assumption | rfl) (by omega) (Nat.le_of_ble_eq_true rfl) rfl rfl rfl ?_
      refine sm_sitM HJ (fun K HK hK => ?_)
      refine ev_inc2 k198_83 rfl ?_
      refine ev_goto k198_86 ?_
      rw [nI_1]
      exact ih (i + 1) K _ (by omega) hv (by rw [eS]; exact HK) (fun k a b c => (hK k a b c).trans (hfJ k a b c))
    refine ev_ild2 k198_40 ?_
    refine ev_ild1 k198_41 ?_
    refine ev_jcmp_ge k198_42 (fun h42 => absurd (nI_lt hlt (by omega)) h42) (fun h42 => ?_)
    refine ev_ald0 k198_45 ?_
    refine ev_getr k198_46 (by first | assumption | rfl) rfl rfl rfl ?_
    refine ev_iconst k198_49 ?_
    refine ev_ialv (j := 3) k198_50 (by first | assumption | rfl) (by omega) rfl (vp_dec rfl) H.1.1.2.2.1 ?_
    refine ev_jf_le k198_51 (fun h51 => ?_) (fun h51 => ?_)
    ·
      exact step J v3 hv3 (by unfold dN; rw [if_pos (by have := h51; rw [n0lt (by omega)] at this; omega)]; exact H) hf
    ·
      have hn0 : 0 < np := (n0lt (by omega)).mp h51
      have hdp : dNp (S 0 17) np < np := Nat.mod_lt _ hn0
      refine lm_ldraw hn0 hp6 hdp (show J 92 1 = S 0 17 from H.1.2.2.2.2.1) H.1.1.2.2.1 (us_rem (S 0 17) hn0 (by omega)) (us_rem (zA (S 0 17)) (n := 100) (by decide) (by decide)) ?_
      refine step _ _ rfl (HS_dN H hn0 ?_ ?_ (fun j a b => ?_)) (fun k a b c => ?_)
      · rw [mm_up_at, if_neg (by omega), mm_up_at, if_pos ⟨rfl, rfl⟩]
      · rw [mm_up_at, if_pos ⟨rfl, rfl⟩]; rfl
      · rw [mm_up_at, if_neg (by omega), mm_up_at, if_neg (by omega), mm_up_at, if_neg (by omega)]
      · rw [mm_up_ne _ _ _ _ _ a, mm_up_ne _ _ _ _ _ a, mm_up_ne _ _ _ _ _ a]; exact hf k a b c
/-- CV.loose -/
theorem op_loose {X : Nat × (Nat → Int32)} {d : Nat} {I : mm_I} {P : Int32 → mm_I → Prop} {a : Int32} (inv : Inv I) (hQ : ∀ v J, mm_Ev mm_T0 X (d + 60) 198 0 (mm_ent 198 [.ref 91, .int a]) [] J (mm_pi fun w K => w = v ∧ Inv K) → P v J) : mm_Ev mm_T0 X (d + 60) 92 0 (mm_ent 92 [.ref 0, .int a]) [] I (mm_pi P) := by
  show mm_Ev mm_T0 X (d + 60) 92 0 [.ref 0, .int a, .retAddr 0] [] I (mm_pi P)
  obtain ⟨nc, np, hs⟩ := inv.1
  obtain ⟨c1, n6, p1, p6, rc, rp, rm, ok, sr, tt⟩ := hsF hs
  have t0 := tCV
  have tm := tM
  have tr := tR
  refine ev_ild1 k92_0 ?_
  refine ev_iconst k92_1 ?_
  refine ev_bipush k92_2 ?_
  refine ev_cS3i k92_4 cs_179 rfl rfl rfl ?_
  refine sp_isWithin ?_
  refine ev_ifz_ne k92_7 (fun h7 => ?_) (fun h7 => ?_)
  ·
    obtain ⟨M, hM1, hM, rfl⟩ := wB_1n (hi := 40) (by decide) h7
    refine ev_ald0 k92_17 ?_
    refine ev_getr k92_18 (by first | assumption | rfl) rfl rfl rfl ?_
    refine ev_gfv (j := 16) k92_21 (by first | assumption | rfl) rfl rfl rfl rfl (show _ = cells I 11 0 16 from rfl) ?_
    refine ev_ild1 k92_24 ?_
    refine ev_iadd k92_25 ?_
    refine ev_sipush k92_26 ?_
    refine ev_jcmp_le k92_29 (fun h29 => ?_) (fun h29 => ?_)
    ·
      refine ev_iconst k92_39 ?_
      refine ev_ist2 k92_40 rfl ?_
      refine lp_loose (I := I) (N := nz (cells I 11)) (nc := nc) (np := np) (wf_nz (HS_wf hs)) (show M ≤ 60 by omega) (fun K eK fK => ?_) M 0 I (by omega) rfl (fun _ _ => rfl)
      refine hQ _ _ ?_
      show mm_Ev mm_T0 X (d + 60) 198 0 [.ref 91, .int _, .retAddr 0, .retAddr 0] [] _ (mm_pi _)
      refine ev_ild1 k198_0 ?_
      refine ev_iconst k198_1 ?_
      refine ev_bipush k198_2 ?_
      refine ev_cS3i k198_4 cs_224 rfl rfl rfl ?_
      refine sp_in ?_
      refine ev_ifz_ne k198_7 (fun g7 => ?_) (fun g7 => Bool.noConfusion (Eq.trans (Eq.symm h7) g7))
      refine ev_ald0 k198_17 ?_
      refine ev_getr k198_18 (by first | assumption | rfl) rfl rfl rfl ?_
      refine ev_iconst k198_21 ?_
      refine ev_ialv (j := 0) k198_22 (by first | assumption | rfl) (by omega) rfl (vp_dec rfl) ((congrFun (fK 92 (by omega)) 0).trans rm.2.2.2.1) ?_
      refine ev_ild1 k198_23 ?_
      refine ev_iadd k198_24 ?_
      refine ev_sipush k198_25 ?_
      refine ev_jcmp_le k198_28 (fun g28 => ?_) (fun g28 => absurd g28 h29)
      refine ev_iconst k198_38 ?_
      refine ev_ist2 k198_39 rfl ?_
      refine lm_loose (I := K) (N := nz (cells I 11)) (nc := nc) (np := np) (show M ≤ 60 by omega) p6 (fun L HL fL => ?_) M 0 K (.retAddr 0) (by omega) rfl (show HS _ (K 92) nc np from by rw [fK 92 (by omega)]; exact HS_nz hs) (fun _ _ _ _ => rfl)
      refine ⟨rfl, Inv_H inv (fun k hk => (fL k (by omega) (by omega) (by omega)).trans (fK k (by omega))) (HS_zn (nc := nc) (np := np) ?_)⟩
      rw [show nz (cells L 11) = nz (cells K 11) from nz_eq (fun k a _ _ _ => fL _ (by omega) (by omega) (by omega)), eK]
      exact HL
    ·
      refine ev_ald0 k92_32 ?_
      refine ev_ldc k92_33 ?_
      refine ev_cV2i k92_35 cs_174 (by first | assumption | rfl) (by omega) (Nat.le_of_ble_eq_true rfl) rfl rfl rfl ?_
      refine sp_error (k := 3) (by decide) (by decide) (by decide) ?_
      refine ev_ri k92_38 rfl ?_
      refine hQ _ _ ?_
      show mm_Ev mm_T0 X (d + 60) 198 0 [.ref 91, .int _, .retAddr 0, .retAddr 0] [] _ (mm_pi _)
      refine ev_ild1 k198_0 ?_
      refine ev_iconst k198_1 ?_
      refine ev_bipush k198_2 ?_
      refine ev_cS3i k198_4 cs_224 rfl rfl rfl ?_
      refine sp_in ?_
      refine ev_ifz_ne k198_7 (fun g7 => ?_) (fun g7 => Bool.noConfusion (Eq.trans (Eq.symm h7) g7))
      refine ev_ald0 k198_17 ?_
      refine ev_getr k198_18 (by first | assumption | rfl) rfl rfl rfl ?_
      refine ev_iconst k198_21 ?_
      refine ev_ialv (j := 0) k198_22 (by first | assumption | rfl) (by omega) rfl (vp_dec rfl) rm.2.2.2.1 ?_
      refine ev_ild1 k198_23 ?_
      refine ev_iadd k198_24 ?_
      refine ev_sipush k198_25 ?_
      refine ev_jcmp_le k198_28 (fun g28 => absurd h29 g28) (fun g28 => ?_)
      refine ev_ald0 k198_31 ?_
      refine ev_ldc k198_32 ?_
      refine ev_cV2i k198_34 cs_238 (by first | assumption | rfl) (by omega) (Nat.le_of_ble_eq_true rfl) rfl rfl rfl ?_
      refine sm_error (k := 3) (by decide) (by decide) ?_
      refine ev_ri k198_37 rfl ?_
      first | exact ⟨rfl, Inv_e rfl rfl inv⟩ | exact ⟨rfl, inv⟩
  ·
    refine ev_ald0 k92_10 ?_
    refine ev_ldc k92_11 ?_
    refine ev_cV2i k92_13 cs_174 (by first | assumption | rfl) (by omega) (Nat.le_of_ble_eq_true rfl) rfl rfl rfl ?_
    refine sp_error (k := 1) (by decide) (by decide) (by decide) ?_
    refine ev_ri k92_16 rfl ?_
    refine hQ _ _ ?_
    show mm_Ev mm_T0 X (d + 60) 198 0 [.ref 91, .int _, .retAddr 0, .retAddr 0] [] _ (mm_pi _)
    refine ev_ild1 k198_0 ?_
    refine ev_iconst k198_1 ?_
    refine ev_bipush k198_2 ?_
    refine ev_cS3i k198_4 cs_224 rfl rfl rfl ?_
    refine sp_in ?_
    refine ev_ifz_ne k198_7 (fun g7 => Bool.noConfusion (Eq.trans (Eq.symm h7) g7)) (fun g7 => ?_)
    refine ev_ald0 k198_10 ?_
    refine ev_ldc k198_11 ?_
    refine ev_cV2i k198_13 cs_238 (by first | assumption | rfl) (by omega) (Nat.le_of_ble_eq_true rfl) rfl rfl rfl ?_
    refine sm_error (k := 1) (by decide) (by decide) ?_
    refine ev_ri k198_16 rfl ?_
    first | exact ⟨rfl, Inv_e rfl rfl inv⟩ | exact ⟨rfl, inv⟩
