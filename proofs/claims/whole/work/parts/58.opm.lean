/-! moves: the walks -/
theorem nd6 : ∀ T U : Fin 64, nd T.val U.val ≤ 6 := by decide +kernel
theorem nd66 {T U : Nat} (hT : T < 64) (hU : U < 64) : nd T U ≤ 6 := nd6 ⟨T, hT⟩ ⟨U, hU⟩
theorem cnt6 {T : Nat} (hT : T < 64) : cnt T ≤ 6 := (bcN ⟨T, hT⟩).2
theorem lp_moves {X : Nat × (Nat → Int32)} {d : Nat} {J S : mm_I} {nc np B T : Nat} {b : Int32} {P : Int32 → mm_I → Prop} (c1 : J 11 1 = nI nc) (p1 : J 11 7 = nI np) (n6 : nc ≤ 6) (p6 : np ≤ 6) (ok2 : ∀ c, c < nc → J (11 + 1) c = nI (hK J 11 c) ∧ hK J 11 c < 7) (hw : ∀ b t, hMg J 11 nc b t = hMv S 0 nc (hWt S 0) b t) (hT : T < 64) (hB : (1 : Int32) <<< (nI nc &&& 31) = nI B) (hB64 : B ≤ 64) (hQ : P (wnR (mvR (fo (mvS S nc np T b) B 0 3))) (wnS (mvR (fo (mvS S nc np T b) B 0 3)) J)) : ∀ (n i : Nat) (l : Nat) (v5 : Value) (v6 : Value), i + n = B → l ≤ 3 → fo (mvS S nc np T b) n i l = fo (mvS S nc np T b) B 0 3 → mm_Ev mm_T0 X (d + 20) 96 34 [.ref 0, .int b, .int (nI T), .int (nI l), .int (nI i), v5, v6] [] J (mm_pi P) := by
  have t0 := tCV
  intro n
  induction n with
  | zero =>
    intro i l v5 v6 hi hl he
    have e : i = B := by omega
    subst e
    refine ev_ild4 k96_34 ?_
    refine ev_iconst k96_36 ?_
    refine ev_ald0 k96_37 ?_
    refine ev_getr k96_38 (by first | assumption | rfl) rfl rfl rfl ?_
    refine ev_gfv (j := 1) k96_41 (by first | assumption | rfl) rfl rfl rfl rfl c1 ?_
    refine ev_ishl k96_44 ?_
    rw [hB]
    refine ev_jcmp_ge k96_45 (fun h45 => ?_) (fun h45 => absurd h45 (nI_nlt (Nat.le_refl _) (by omega)))
    refine ev_ild3 k96_111 ?_
    refine ev_iconst k96_112 ?_
    refine ev_jcmp_le k96_113 (fun h113 => ?_) (fun h113 => ?_)
    ·
      refine ev_ild3 k96_125 ?_
      refine ev_ri k96_126 rfl ?_
      rw [show fo (mvS S nc np T b) 0 i l = l from rfl] at he
      rw [← he, show mvR l = some l from if_neg (fun z => h113 (nI_lt z (by omega)))] at hQ
      exact hQ
    ·
      refine ev_ald0 k96_116 ?_
      refine ev_ldc k96_117 ?_
      refine ev_cV2i k96_119 cs_174 (by first | assumption | rfl) (by omega) (Nat.le_of_ble_eq_true rfl) rfl rfl rfl ?_
      refine sp_error (k := 2) (by decide) (by decide) (by decide) ?_
      refine ev_goto k96_122 ?_
      refine ev_ri k96_126 rfl ?_
      rw [show fo (mvS S nc np T b) 0 i l = l from rfl] at he
      rw [← he, show mvR l = none from if_pos ((nI_ltI (show 2 < 2 ^ 31 by decide) (show l < 2 ^ 31 by omega)).mp h113)] at hQ
      exact hQ
  | succ n ih =>
    intro i l v5 v6 hi hl he
    have hlt : i < B := by omega
    refine ev_ild4 k96_34 ?_
    refine ev_iconst k96_36 ?_
    refine ev_ald0 k96_37 ?_
    refine ev_getr k96_38 (by first | assumption | rfl) rfl rfl rfl ?_
    refine ev_gfv (j := 1) k96_41 (by first | assumption | rfl) rfl rfl rfl rfl c1 ?_
    refine ev_ishl k96_44 ?_
    rw [hB]
    refine ev_jcmp_ge k96_45 (fun h45 => absurd (nI_lt hlt (by omega)) h45) (fun h45 => ?_)
    refine ev_ild2 k96_48 ?_
    refine ev_ild4 k96_49 ?_
    refine ev_cS2i k96_51 cs_204 rfl rfl rfl ?_
    refine sp_moversBetween ?_
    rw [show (if bc (nI T &&& (nI i ^^^ (-1))) < bc (nI i &&& (nI T ^^^ (-1))) then bc (nI i &&& (nI T ^^^ (-1))) else bc (nI T &&& (nI i ^^^ (-1)))) = nI (nd T i) from mvB ⟨T, hT⟩ ⟨i, by omega⟩]
    refine ev_ist5 k96_54 rfl ?_
    refine ev_ild4 k96_56 ?_
    refine ev_cS1i k96_58 cs_198 rfl rfl rfl ?_
    refine sp_bitCount ?_
    rw [show bc (nI i) = nI (cnt i) from (bcN ⟨i, by omega⟩).1]
    refine ev_ald0 k96_61 ?_
    refine ev_getr k96_62 (by first | assumption | rfl) rfl rfl rfl ?_
    refine ev_gfv (j := 7) k96_65 (by first | assumption | rfl) rfl rfl rfl rfl p1 ?_
    refine ev_icmp_gt k96_68 (fun h68 => ?_) (fun h68 => ?_)
    ·
      refine ev_iconst k96_75 ?_
      refine ev_ist6 k96_76 rfl ?_
      refine ev_ild6 k96_78 ?_
      refine ev_if_eq k96_80 (fun h80 => ?_) (fun h80 => absurd rfl h80)
      refine ev_inc4 k96_105 rfl ?_
      refine ev_goto k96_108 ?_
      rw [nI_1]
      have e : mvS S nc np T b i l = l := if_neg (fun z => absurd z.1 (Nat.not_le.mpr ((nI_ltI (show np < 2 ^ 31 by omega) (show cnt i < 2 ^ 31 by have := cnt6 (show i < 64 by omega); omega)).mp h68)))
      refine ih (i + 1) (l) _ _ (by omega) hl ?_
      rw [← he]
      show _ = fo (mvS S nc np T b) n (i + 1) (mvS S nc np T b i l)
      rw [e]
    ·
      refine ev_iconst k96_71 ?_
      refine ev_goto k96_72 ?_
      refine ev_ist6 k96_76 rfl ?_
      refine ev_ild6 k96_78 ?_
      refine ev_if_eq k96_80 (fun h80 => absurd h80 (by decide)) (fun h80 => ?_)
      refine ev_ild5 k96_83 ?_
      refine ev_ild3 k96_85 ?_
      refine ev_jcmp_ge k96_86 (fun h86 => ?_) (fun h86 => ?_)
      ·
        refine ev_inc4 k96_105 rfl ?_
        refine ev_goto k96_108 ?_
        rw [nI_1]
        have e : mvS S nc np T b i l = l := if_neg (fun z => h86 ((nI_ltI (show nd T i < 2 ^ 31 by have := nd66 hT (show i < 64 by omega); omega) (show l < 2 ^ 31 by omega)).mpr z.2.1))
        refine ih (i + 1) (l) _ _ (by omega) hl ?_
        rw [← he]
        show _ = fo (mvS S nc np T b) n (i + 1) (mvS S nc np T b i l)
        rw [e]
      ·
        refine ev_ald0 k96_89 ?_
        refine ev_getr k96_90 (by first | assumption | rfl) rfl rfl rfl ?_
        refine ev_ild1 k96_93 ?_
        refine ev_ild4 k96_94 ?_
        refine ev_cV3i k96_96 cs_195 (by first | assumption | rfl) (by omega) (Nat.le_of_ble_eq_true rfl) rfl rfl rfl ?_
        refine sp_margin hh11 (nc := nc) c1 n6 ok2 ?_
        rw [hw]
        refine ev_jf_le k96_99 (fun h99 => ?_) (fun h99 => ?_)
        ·
          refine ev_inc4 k96_105 rfl ?_
          refine ev_goto k96_108 ?_
          rw [nI_1]
          have e : mvS S nc np T b i l = l := if_neg (fun z => h99 (of_decide_eq_true z.2.2))
          refine ih (i + 1) (l) _ _ (by omega) hl ?_
          rw [← he]
          show _ = fo (mvS S nc np T b) n (i + 1) (mvS S nc np T b i l)
          rw [e]
        ·
          refine ev_ild5 k96_102 ?_
          refine ev_ist3 k96_104 rfl ?_
          refine ev_inc4 k96_105 rfl ?_
          refine ev_goto k96_108 ?_
          rw [nI_1]
          have e : mvS S nc np T b i l = nd T i := if_pos ⟨Nat.le_of_not_lt (fun z => h68 ((nI_ltI (show np < 2 ^ 31 by omega) (show cnt i < 2 ^ 31 by have := cnt6 (show i < 64 by omega); omega)).mpr z)), (nI_ltI (show nd T i < 2 ^ 31 by have := nd66 hT (show i < 64 by omega); omega) (show l < 2 ^ 31 by omega)).mp h86, decide_eq_true h99⟩
          refine ih (i + 1) (nd T i) _ _ (by omega) (by have := (nI_ltI (show nd T i < 2 ^ 31 by have := nd66 hT (show i < 64 by omega); omega) (show l < 2 ^ 31 by omega)).mp h86; omega) ?_
          rw [← he]
          show _ = fo (mvS S nc np T b) n (i + 1) (mvS S nc np T b i l)
          rw [e]
theorem cI_lt {i nc : Nat} (h : i < nc + 1) (h6 : nc ≤ 6) : cI i < nI nc := by
  cases i with
  | zero => rw [cI_0]; exact Int32.lt_of_lt_of_le (show (-1 : Int32) < 0 by decide) (nI_pos' (by omega))
  | succ c => rw [cI_s]; exact nI_lt (by omega) (by omega)
theorem cI_inc (i : Nat) : cI i + 1 = cI (i + 1) := by
  rw [cI_s]
  unfold cI
  rw [Int32.add_assoc, show (-1 : Int32) + 1 = 0 from by decide, Int32.add_zero]
theorem cI_m1 {i : Nat} (h : i < 1000) : cI i = -1 ↔ i = 0 := by
  cases i with
  | zero => exact ⟨fun _ => rfl, fun _ => cI_0⟩
  | succ c => rw [cI_s]; exact ⟨fun z => absurd z (m1_ne (by omega)), fun z => absurd z (by omega)⟩
theorem lm_cp1 {X : Nat × (Nat → Int32)} {d : Nat} {I S : mm_I} {nc np p n0 : Nat} {b : Int32} {P : Int32 → mm_I → Prop} (h6 : nc ≤ 6) (hp6 : np ≤ 6) (hp : p < np) (H0 : HS S (I 92) nc np) (ihc : ∀ (S J : mm_I) (P : Int32 → mm_I → Prop), HS S (J 92) nc np → (∀ K, sc J K → P (bI (cpS nc np b n0 S)) K) → mm_Ev mm_T0 X (d + n0 + 20) 204 0 (mm_ent 204 [.ref 91, .int b, .int (nI n0)]) [] J (mm_pi P)) (hQ1 : ∀ K, sc I K → (fnd (fun i => al S np i && cpS nc np b n0 (mm_up S 8 p (cI i))) (nc + 1) 0).isSome = true → P 1 K) (hQ2 : ∀ K, sc I K → (fnd (fun i => al S np i && cpS nc np b n0 (mm_up S 8 p (cI i))) (nc + 1) 0).isSome = false → ∀ v6, mm_Ev mm_T0 X (d + (n0 + 1) + 20) 204 98 [.ref 91, .int b, .int (nI (n0 + 1)), .int (nI p), .int (S 8 p), .int (cI (nc + 1)), v6] [] K (mm_pi P)) : ∀ (n i : Nat) (J : mm_I) (v6 : Value), i + n = nc + 1 → fnd (fun i => al S np i && cpS nc np b n0 (mm_up S 8 p (cI i))) n i = fnd (fun i => al S np i && cpS nc np b n0 (mm_up S 8 p (cI i))) (nc + 1) 0 → sc I J → mm_Ev mm_T0 X (d + (n0 + 1) + 20) 204 33 [.ref 91, .int b, .int (nI (n0 + 1)), .int (nI p), .int (S 8 p), .int (cI i), v6] [] J (mm_pi P) := by
  have tm := tM
  have tr := tR
  intro n
  induction n with
  | zero =>
    intro i J v6 hi he hs
    have e : i = nc + 1 := by omega
    subst e
    refine ev_ild5 k204_33 ?_
    refine ev_ald0 k204_35 ?_
    refine ev_getr k204_36 (by first | assumption | rfl) rfl rfl rfl ?_
    refine ev_iconst k204_39 ?_
    refine ev_ialv (j := 2) k204_40 (by first | assumption | rfl) (by omega) rfl (vp_dec rfl) ((congrFun (hs 92 (by decide) (by decide)) 2).trans H0.1.1.1) ?_
    refine ev_jcmp_ge k204_41 (fun h41 => ?_) (fun h41 => absurd h41 (by rw [cI_s]; exact nI_nlt (Nat.le_refl _) (by omega)))
    exact hQ2 _ hs (by rw [← he]; rfl) v6
  | succ n ih =>
    intro i J v6 hi he hs
    have hlt : i < nc + 1 := by omega
    refine ev_ild5 k204_33 ?_
    refine ev_ald0 k204_35 ?_
    refine ev_getr k204_36 (by first | assumption | rfl) rfl rfl rfl ?_
    refine ev_iconst k204_39 ?_
    refine ev_ialv (j := 2) k204_40 (by first | assumption | rfl) (by omega) rfl (vp_dec rfl) ((congrFun (hs 92 (by decide) (by decide)) 2).trans H0.1.1.1) ?_
    refine ev_jcmp_ge k204_41 (fun h41 => absurd (cI_lt (show i < nc + 1 by omega) h6) h41) (fun h41 => ?_)
    refine ev_ild5 k204_44 ?_
    refine ev_iconst k204_46 ?_
    refine ev_icmp_eq k204_47 (fun h47 => ?_) (fun h47 => ?_)
    ·
      have ha : al S np i = true := by unfold al; rw [decide_eq_true ((cI_m1 (by omega)).mp h47)]; rfl
      have H := HS_congr (S := S) (R := I 92) (fun _ _ _ _ _ => rfl) (fun j _ => congrFun (hs 92 (by decide) (by decide)) j) H0
      refine ev_ald0 k204_59 ?_
      refine ev_ild3 k204_60 ?_
      refine ev_iconst k204_61 ?_
      refine ev_ild5 k204_62 ?_
      refine ev_cV4v k204_64 cs_244 (by first | assumption | rfl) (by omega) (Nat.le_of_ble_eq_true rfl) rfl rfl rfl ?_
      refine sm_lets (w := 2) (show p < 6 by omega) (by decide) ?_
      refine ev_ald0 k204_67 ?_
      refine ev_ild1 k204_68 ?_
      refine ev_ild2 k204_69 ?_
      refine ev_iconst k204_70 ?_
      refine ev_isub k204_71 ?_
      rw [show nI (n0 + 1) - 1 = nI n0 from nI_pred n0]
      refine ev_cV3i k204_72 cs_271 (by first | assumption | rfl) (by omega) (Nat.le_of_ble_eq_true rfl) rfl rfl rfl ?_
      refine ihc (mm_up S 8 p (cI i)) _ _ ?_ (fun K hK => ?_)
      · exact HS_congr (fun _ _ _ _ _ => rfl) (fun j _ => by rw [mm_up_at]; by_cases z : j = 31 + 3 * p + 2 <;> simp [upd, z]) (HS_member (w := 2) (v := cI i) (by decide) hp (fun z => absurd z (by decide)) (fun z => absurd z (by decide)) (fun _ => al_v hp6 (by omega) ha) H)
      refine ev_ist6 k204_75 rfl ?_
      refine ev_ald0 k204_77 ?_
      refine ev_ild3 k204_78 ?_
      refine ev_iconst k204_79 ?_
      refine ev_ild4 k204_80 ?_
      refine ev_cV4v k204_82 cs_244 (by first | assumption | rfl) (by omega) (Nat.le_of_ble_eq_true rfl) rfl rfl rfl ?_
      refine sm_lets (w := 2) (show p < 6 by omega) (by decide) ?_
      have hs2 : sc I (mm_up K 92 (31 + 3 * p + 2) (S 8 p)) := fun k a b => by
        by_cases z : k = 92
        · rw [z]
          funext j
          rw [mm_up_at, hK 92 (by decide) (by decide), mm_up_at]
          by_cases w : j = 31 + 3 * p + 2
          · rw [if_pos ⟨rfl, w⟩, w]; exact ((H0.1.2.2.1 p hp).2.2).symm
          · rw [if_neg (fun t => w t.2), if_neg (fun t => w t.2)]; exact congrFun (hs 92 (by decide) (by decide)) j
        · rw [mm_up_ne _ _ _ _ _ z, hK k a b, mm_up_ne _ _ _ _ _ z]; exact hs k a b
      refine ev_ild6 k204_85 ?_
      refine ev_if_eq k204_87 (fun h87 => ?_) (fun h87 => ?_)
      ·
        refine ev_inc5 k204_92 rfl ?_
        refine ev_goto k204_95 ?_
        have e : fnd (fun i => al S np i && cpS nc np b n0 (mm_up S 8 p (cI i))) (n + 1) i = fnd (fun i => al S np i && cpS nc np b n0 (mm_up S 8 p (cI i))) n (i + 1) := if_neg (show ¬ (al S np i && cpS nc np b n0 (mm_up S 8 p (cI i))) = true from by rw [ha, bI_eq0.mp h87]; decide)
        rw [cI_inc]
        exact ih (i + 1) _ _ (by omega) (e.symm.trans he) hs2
      ·
        refine ev_iconst k204_90 ?_
        refine ev_rz k204_91 rfl (by first | exact bI01 _ | exact Or.inl rfl | exact Or.inr rfl | assumption) ?_
        have e : fnd (fun i => al S np i && cpS nc np b n0 (mm_up S 8 p (cI i))) (n + 1) i = some i := if_pos (show (al S np i && cpS nc np b n0 (mm_up S 8 p (cI i))) = true from by rw [ha, bI_ne0.mp h87]; rfl)
        rw [e] at he
        exact hQ1 _ hs2 (by rw [← he]; rfl)
    ·
      refine ev_ald0 k204_50 ?_
      refine ev_ild5 k204_51 ?_
      refine ev_cV2i k204_53 cs_240 (by first | assumption | rfl) (by omega) (Nat.le_of_ble_eq_true rfl) rfl rfl rfl ?_
      refine sm_whoAt (S := S) (nc := nc) (np := np) (RM_congr (hs 92 (by decide) (by decide)) H0.1) ?_
      refine ev_jf_ge k204_56 (fun h56 => ?_) (fun h56 => ?_)
      ·
        refine ev_inc5 k204_92 rfl ?_
        refine ev_goto k204_95 ?_
        have ha : al S np i = false := by unfold al; rw [decide_eq_false (fun z => h47 ((cI_m1 (by omega)).mpr z)), decide_eq_false h56]; rfl
        have e : fnd (fun i => al S np i && cpS nc np b n0 (mm_up S 8 p (cI i))) (n + 1) i = fnd (fun i => al S np i && cpS nc np b n0 (mm_up S 8 p (cI i))) n (i + 1) := if_neg (show ¬ (al S np i && cpS nc np b n0 (mm_up S 8 p (cI i))) = true from by rw [ha, Bool.false_and]; decide)
        rw [cI_inc]
        exact ih (i + 1) J _ (by omega) (e.symm.trans he) hs
      ·
        have ha : al S np i = true := by unfold al; rw [decide_eq_true h56, Bool.or_true]
        have H := HS_congr (S := S) (R := I 92) (fun _ _ _ _ _ => rfl) (fun j _ => congrFun (hs 92 (by decide) (by decide)) j) H0
        refine ev_ald0 k204_59 ?_
        refine ev_ild3 k204_60 ?_
        refine ev_iconst k204_61 ?_
        refine ev_ild5 k204_62 ?_
        refine ev_cV4v k204_64 cs_244 (by first | assumption | rfl) (by omega) (Nat.le_of_ble_eq_true rfl) rfl rfl rfl ?_
        refine sm_lets (w := 2) (show p < 6 by omega) (by decide) ?_
        refine ev_ald0 k204_67 ?_
        refine ev_ild1 k204_68 ?_
        refine ev_ild2 k204_69 ?_
        refine ev_iconst k204_70 ?_
        refine ev_isub k204_71 ?_
        rw [show nI (n0 + 1) - 1 = nI n0 from nI_pred n0]
        refine ev_cV3i k204_72 cs_271 (by first | assumption | rfl) (by omega) (Nat.le_of_ble_eq_true rfl) rfl rfl rfl ?_
        refine ihc (mm_up S 8 p (cI i)) _ _ ?_ (fun K hK => ?_)
        · exact HS_congr (fun _ _ _ _ _ => rfl) (fun j _ => by rw [mm_up_at]; by_cases z : j = 31 + 3 * p + 2 <;> simp [upd, z]) (HS_member (w := 2) (v := cI i) (by decide) hp (fun z => absurd z (by decide)) (fun z => absurd z (by decide)) (fun _ => al_v hp6 (by omega) ha) H)
        refine ev_ist6 k204_75 rfl ?_
        refine ev_ald0 k204_77 ?_
        refine ev_ild3 k204_78 ?_
        refine ev_iconst k204_79 ?_
        refine ev_ild4 k204_80 ?_
        refine ev_cV4v k204_82 cs_244 (by first | assumption | rfl) (by omega) (Nat.le_of_ble_eq_true rfl) rfl rfl rfl ?_
        refine sm_lets (w := 2) (show p < 6 by omega) (by decide) ?_
        have hs2 : sc I (mm_up K 92 (31 + 3 * p + 2) (S 8 p)) := fun k a b => by
          by_cases z : k = 92
          · rw [z]
            funext j
            rw [mm_up_at, hK 92 (by decide) (by decide), mm_up_at]
            by_cases w : j = 31 + 3 * p + 2
            · rw [if_pos ⟨rfl, w⟩, w]; exact ((H0.1.2.2.1 p hp).2.2).symm
            · rw [if_neg (fun t => w t.2), if_neg (fun t => w t.2)]; exact congrFun (hs 92 (by decide) (by decide)) j
          · rw [mm_up_ne _ _ _ _ _ z, hK k a b, mm_up_ne _ _ _ _ _ z]; exact hs k a b
        refine ev_ild6 k204_85 ?_
        refine ev_if_eq k204_87 (fun h87 => ?_) (fun h87 => ?_)
        ·
          refine ev_inc5 k204_92 rfl ?_
          refine ev_goto k204_95 ?_
          have e : fnd (fun i => al S np i && cpS nc np b n0 (mm_up S 8 p (cI i))) (n + 1) i = fnd (fun i => al S np i && cpS nc np b n0 (mm_up S 8 p (cI i))) n (i + 1) := if_neg (show ¬ (al S np i && cpS nc np b n0 (mm_up S 8 p (cI i))) = true from by rw [ha, bI_eq0.mp h87]; decide)
          rw [cI_inc]
          exact ih (i + 1) _ _ (by omega) (e.symm.trans he) hs2
        ·
          refine ev_iconst k204_90 ?_
          refine ev_rz k204_91 rfl (by first | exact bI01 _ | exact Or.inl rfl | exact Or.inr rfl | assumption) ?_
          have e : fnd (fun i => al S np i && cpS nc np b n0 (mm_up S 8 p (cI i))) (n + 1) i = some i := if_pos (show (al S np i && cpS nc np b n0 (mm_up S 8 p (cI i))) = true from by rw [ha, bI_ne0.mp h87]; rfl)
          rw [e] at he
          exact hQ1 _ hs2 (by rw [← he]; rfl)
theorem lm_cp2 {X : Nat × (Nat → Int32)} {d : Nat} {I S : mm_I} {nc np n0 : Nat} {b : Int32} {P : Int32 → mm_I → Prop} (h6 : nc ≤ 6) (hp6 : np ≤ 6) (H0 : HS S (I 92) nc np) (ihc : ∀ (S J : mm_I) (P : Int32 → mm_I → Prop), HS S (J 92) nc np → (∀ K, sc J K → P (bI (cpS nc np b n0 S)) K) → mm_Ev mm_T0 X (d + n0 + 20) 204 0 (mm_ent 204 [.ref 91, .int b, .int (nI n0)]) [] J (mm_pi P)) (hQ : ∀ K, sc I K → P (bI (cpS nc np b (n0 + 1) S)) K) : ∀ (n i : Nat) (J : mm_I) (v4 v5 v6 : Value), i + n = np → fnd (fun p => (fnd (fun i => al S np i && cpS nc np b n0 (mm_up S 8 p (cI i))) (nc + 1) 0).isSome) n i = fnd (fun p => (fnd (fun i => al S np i && cpS nc np b n0 (mm_up S 8 p (cI i))) (nc + 1) 0).isSome) np 0 → sc I J → mm_Ev mm_T0 X (d + (n0 + 1) + 20) 204 12 [.ref 91, .int b, .int (nI (n0 + 1)), .int (nI i), v4, v5, v6] [] J (mm_pi P) := by
  have tm := tM
  have tr := tR
  intro n
  induction n with
  | zero =>
    intro i J v4 v5 v6 hi he hs
    have e : i = np := by omega
    subst e
    refine ev_ild3 k204_12 ?_
    refine ev_ald0 k204_13 ?_
    refine ev_getr k204_14 (by first | assumption | rfl) rfl rfl rfl ?_
    refine ev_iconst k204_17 ?_
    refine ev_ialv (j := 3) k204_18 (by first | assumption | rfl) (by omega) rfl (vp_dec rfl) ((congrFun (hs 92 (by decide) (by decide)) 3).trans H0.1.1.2.2.1) ?_
    refine ev_jcmp_ge k204_19 (fun h19 => ?_) (fun h19 => absurd h19 (nI_nlt (Nat.le_refl _) (by omega)))
    refine ev_iconst k204_104 ?_
    refine ev_rz k204_105 rfl (by first | exact bI01 _ | exact Or.inl rfl | exact Or.inr rfl | assumption) ?_
    have z := hQ J hs
    rw [show cpS nc i b (n0 + 1) S = false from (by show (fnd (fun p => (fnd (fun q => al S i q && cpS nc i b n0 (mm_up S 8 p (cI q))) (nc + 1) 0).isSome) i 0).isSome = false; rw [← he]; rfl)] at z
    exact z
  | succ n ih =>
    intro i J v4 v5 v6 hi he hs
    have hlt : i < np := by omega
    refine ev_ild3 k204_12 ?_
    refine ev_ald0 k204_13 ?_
    refine ev_getr k204_14 (by first | assumption | rfl) rfl rfl rfl ?_
    refine ev_iconst k204_17 ?_
    refine ev_ialv (j := 3) k204_18 (by first | assumption | rfl) (by omega) rfl (vp_dec rfl) ((congrFun (hs 92 (by decide) (by decide)) 3).trans H0.1.1.2.2.1) ?_
    refine ev_jcmp_ge k204_19 (fun h19 => absurd (nI_lt hlt (by omega)) h19) (fun h19 => ?_)
    refine ev_ald0 k204_22 ?_
    refine ev_ild3 k204_23 ?_
    refine ev_iconst k204_24 ?_
    refine ev_cV3i k204_25 cs_225 (by first | assumption | rfl) (by omega) (Nat.le_of_ble_eq_true rfl) rfl rfl rfl ?_
    refine sm_aboutv (w := 2) (v := S 8 i) (show i < 6 by omega) (by decide) ((congrFun (hs 92 (by decide) (by decide)) _).trans (H0.1.2.2.1 i hlt).2.2) ?_
    refine ev_ist4 k204_28 rfl ?_
    refine ev_iconst k204_30 ?_
    refine ev_ist5 k204_31 rfl ?_
    refine lm_cp1 (I := J) (S := S) (n0 := n0) h6 hp6 hlt (HS_congr (fun _ _ _ _ _ => rfl) (fun j _ => congrFun (hs 92 (by decide) (by decide)) j) H0) ihc (fun K hK hx => ?_) (fun K hK hx v6 => ?_) (nc + 1) 0 J v6 (by omega) rfl (sc_rf J)
    · have e : fnd (fun p => (fnd (fun i => al S np i && cpS nc np b n0 (mm_up S 8 p (cI i))) (nc + 1) 0).isSome) (n + 1) i = some i := if_pos hx
      rw [e] at he
      have z := hQ K (sc_tr hs hK)
      rw [show cpS nc np b (n0 + 1) S = true from (by show (fnd (fun p => (fnd (fun i => al S np i && cpS nc np b n0 (mm_up S 8 p (cI i))) (nc + 1) 0).isSome) np 0).isSome = true; rw [← he]; rfl)] at z
      exact z
    refine ev_inc3 k204_98 rfl ?_
    refine ev_goto k204_101 ?_
    have e : fnd (fun p => (fnd (fun i => al S np i && cpS nc np b n0 (mm_up S 8 p (cI i))) (nc + 1) 0).isSome) (n + 1) i = fnd (fun p => (fnd (fun i => al S np i && cpS nc np b n0 (mm_up S 8 p (cI i))) (nc + 1) 0).isSome) n (i + 1) := if_neg (fun z => Bool.noConfusion (Eq.trans (Eq.symm hx) z))
    rw [nI_1]
    exact ih (i + 1) K _ _ _ (by omega) (e.symm.trans he) (sc_tr hs hK)
theorem sm_canPass {X : Nat × (Nat → Int32)} {d : Nat} {nc np : Nat} {b : Int32} (h6 : nc ≤ 6) (hp6 : np ≤ 6) : ∀ (n : Nat), n ≤ 2 → ∀ (S J : mm_I) (P : Int32 → mm_I → Prop), HS S (J 92) nc np → (∀ K, sc J K → P (bI (cpS nc np b n S)) K) → mm_Ev mm_T0 X (d + n + 20) 204 0 (mm_ent 204 [.ref 91, .int b, .int (nI n)]) [] J (mm_pi P) := by
  intro n
  induction n with
  | zero =>
    intro hn S J P H hQ
    show mm_Ev mm_T0 X (d + 0 + 20) 204 0 [.ref 91, .int b, .int (nI 0), .retAddr 0, .retAddr 0, .retAddr 0, .retAddr 0] [] J (mm_pi P)
    refine ev_ild2 k204_0 ?_
    refine ev_if_ne k204_1 (fun h1 => absurd rfl h1) (fun h1 => ?_)
    refine ev_ald0 k204_4 ?_
    refine ev_ild1 k204_5 ?_
    refine ev_cV2i k204_6 cs_260 (by first | assumption | rfl) (by omega) (Nat.le_of_ble_eq_true rfl) rfl rfl rfl ?_
    refine sm_doesPass (S := S) H.1 H.2.1 H.2.2.1 H.2.2.2.1 (fun K hK => ?_)
    refine ev_rz k204_9 rfl (by first | exact bI01 _ | exact Or.inl rfl | exact Or.inr rfl | assumption) ?_
    exact hQ K hK
  | succ n ih =>
    intro hn S J P H hQ
    show mm_Ev mm_T0 X (d + (n + 1) + 20) 204 0 [.ref 91, .int b, .int (nI (n + 1)), .retAddr 0, .retAddr 0, .retAddr 0, .retAddr 0] [] J (mm_pi P)
    refine ev_ild2 k204_0 ?_
    refine ev_if_ne k204_1 (fun h1 => ?_) (fun h1 => absurd h1 (nI_ne0 (by omega) (by omega)))
    refine ev_iconst k204_10 ?_
    refine ev_ist3 k204_11 rfl ?_
    exact lm_cp2 h6 hp6 H (fun S J P H hQ => ih (by omega) S J P H hQ) hQ np 0 J _ _ _ (by omega) rfl (sc_rf J)
theorem sm_canPassD {X : Nat × (Nat → Int32)} {D d : Nat} {nc np : Nat} {b : Int32} (h6 : nc ≤ 6) (hp6 : np ≤ 6) (n : Nat) (hn : n ≤ 2) (hD : D = d + n + 20) (S J : mm_I) (P : Int32 → mm_I → Prop) (H : HS S (J 92) nc np) (hQ : ∀ K, sc J K → P (bI (cpS nc np b n S)) K) : mm_Ev mm_T0 X D 204 0 (mm_ent 204 [.ref 91, .int b, .int (nI n)]) [] J (mm_pi P) := by
  subst hD
  exact sm_canPass h6 hp6 n hn S J P H hQ
theorem lm_moves {X : Nat × (Nat → Int32)} {d : Nat} {I S : mm_I} {nc np : Nat} {b : Int32} {P : Int32 → mm_I → Prop} (H0 : HS S (I 92) nc np) (hQ1 : ∀ K m, sc I K → fnd (fun n => cpS nc np b n S) 3 0 = some m → P (nI m) K) (hQ2 : ∀ K, sc I K → fnd (fun n => cpS nc np b n S) 3 0 = none → P (-1000000002) (mm_up K 95 2 (K 95 2 + 1))) : ∀ (n i : Nat) (J : mm_I), i + n = 3 → fnd (fun n => cpS nc np b n S) n i = fnd (fun n => cpS nc np b n S) 3 0 → sc I J → mm_Ev mm_T0 X (d + 40) 205 16 [.ref 91, .int b, .int (nI i)] [] J (mm_pi P) := by
  have tm := tM
  have tr := tR
  intro n
  induction n with
  | zero =>
    intro i J hi he hs
    have e : i = 3 := by omega
    subst e
    refine ev_ild2 k205_16 ?_
    refine ev_iconst k205_17 ?_
    refine ev_icmp_gt k205_18 (fun h18 => ?_) (fun h18 => absurd (show (2 : Int32) < nI 3 by decide) h18)
    refine ev_ald0 k205_38 ?_
    refine ev_ldc k205_39 ?_
    refine ev_cV2i k205_41 cs_238 (by first | assumption | rfl) (by omega) (Nat.le_of_ble_eq_true rfl) rfl rfl rfl ?_
    refine sm_error (k := 2) (by decide) (by decide) ?_
    refine ev_ri k205_44 rfl ?_
    exact hQ2 J hs he.symm
  | succ n ih =>
    intro i J hi he hs
    have hlt : i < 3 := by omega
    refine ev_ild2 k205_16 ?_
    refine ev_iconst k205_17 ?_
    refine ev_icmp_gt k205_18 (fun h18 => absurd ((nI_ltI (show 2 < 2 ^ 31 by decide) (show i < 2 ^ 31 by omega)).mp (show nI 2 < nI i from h18)) (by omega)) (fun h18 => ?_)
    refine ev_ald0 k205_21 ?_
    refine ev_ild1 k205_22 ?_
    refine ev_ild2 k205_23 ?_
    refine ev_cV3i k205_24 cs_271 (by first | assumption | rfl) (by omega) (Nat.le_of_ble_eq_true rfl) rfl rfl rfl ?_
    refine sm_canPassD (d := d + 19 - i) H0.1.1.2.1 H0.1.1.2.2.2.1 i (by omega) (by omega) S J _ (HS_congr (fun _ _ _ _ _ => rfl) (fun j _ => congrFun (hs 92 (by decide) (by decide)) j) H0) (fun K hK => ?_)
    refine ev_ifz_eq k205_27 (fun h27 => ?_) (fun h27 => ?_)
    ·
      refine ev_inc2 k205_32 rfl ?_
      refine ev_goto k205_35 ?_
      have e : fnd (fun n => cpS nc np b n S) (n + 1) i = fnd (fun n => cpS nc np b n S) n (i + 1) := if_neg (show ¬ cpS nc np b i S = true from by rw [h27]; decide)
      rw [nI_1]
      exact ih (i + 1) K (by omega) (e.symm.trans he) (sc_tr hs hK)
    ·
      refine ev_ild2 k205_30 ?_
      refine ev_ri k205_31 rfl ?_
      have e : fnd (fun n => cpS nc np b n S) (n + 1) i = some i := if_pos h27
      exact hQ1 K i (sc_tr hs hK) (he.symm.trans e)
/-- CV.moves -/
theorem op_moves {X : Nat × (Nat → Int32)} {d : Nat} {I : mm_I} {P : Int32 → mm_I → Prop} {a : Int32} (inv : Inv I) (hQ : ∀ v J, mm_Ev mm_T0 X (d + 60) 205 0 (mm_ent 205 [.ref 91, .int a]) [] J (mm_pi fun w K => w = v ∧ Inv K) → P v J) : mm_Ev mm_T0 X (d + 60) 96 0 (mm_ent 96 [.ref 0, .int a]) [] I (mm_pi P) := by
  show mm_Ev mm_T0 X (d + 60) 96 0 [.ref 0, .int a, .retAddr 0, .retAddr 0, .retAddr 0, .retAddr 0, .retAddr 0] [] I (mm_pi P)
  obtain ⟨nc, np, hs⟩ := inv.1
  obtain ⟨c1, n6, p1, p6, rc, rp, rm, ok, sr, tt⟩ := hsF hs
  have t0 := tCV
  have tm := tM
  have tr := tR
  refine ev_ild1 k96_0 ?_
  refine ev_cS1i k96_1 cs_181 rfl rfl rfl ?_
  refine sp_isBill ?_
  refine ev_ifz_ne k96_4 (fun h4 => ?_) (fun h4 => ?_)
  ·
    refine ev_ald0 k96_14 ?_
    refine ev_getr k96_15 (by first | assumption | rfl) rfl rfl rfl ?_
    refine ev_cV1v k96_18 cs_192 (by first | assumption | rfl) (by omega) (Nat.le_of_ble_eq_true rfl) rfl rfl rfl ?_
    refine sp_weighAll hh11 ok (fun g => ?_)
    have inv2 : Inv (hWI I 11 nc g) := Inv_W inv
    have ok2 : ∀ c, c < nc → hWI I 11 nc g (11 + 1) c = nI (hK (hWI I 11 nc g) 11 c) ∧ hK (hWI I 11 nc g) 11 c < 7 := ok.2.2.1
    refine ev_ald0 k96_21 ?_
    refine ev_getr k96_22 (by first | assumption | rfl) rfl rfl rfl ?_
    refine ev_cV1i k96_25 cs_194 (by first | assumption | rfl) (by omega) (Nat.le_of_ble_eq_true rfl) rfl rfl rfl ?_
    refine sp_taken (I := hWI I 11 nc g) hh11 (np := np) p1 p6 ?_
    obtain ⟨k1, k2, -, -, -⟩ := tkC n6 sr
    rw [show hTk (hWI I 11 nc g) 11 np = hTk (cells I 11) 0 np from rfl, k2]
    refine ev_ist2 k96_28 rfl ?_
    refine ev_iconst k96_29 ?_
    refine ev_ist3 k96_30 rfl ?_
    refine ev_iconst k96_31 ?_
    refine ev_ist4 k96_32 rfl ?_
    obtain ⟨B, hB0, hB64, hB⟩ := shl6 n6
    refine lp_moves (J := hWI I 11 nc g) (S := cells I 11) (nc := nc) (np := np) (T := tkN (cells I 11) np) c1 p1 n6 p6 ok2 (fun b t => mgW b t) k1 hB hB64 ?_ B 0 3 (.retAddr 0) (.retAddr 0) (by omega) (by omega) rfl
    have hmv := mv_eq (b := a) n6 p6 sr hB0
    generalize hfd : mvR (fo (mvS (cells I 11) nc np (tkN (cells I 11) np) a) B 0 3) = fd at hmv ⊢
    refine hQ _ _ ?_
    show mm_Ev mm_T0 X (d + 60) 205 0 [.ref 91, .int _, .retAddr 0] [] _ (mm_pi _)
    refine ev_ild1 k205_0 ?_
    refine ev_cS1i k205_1 cs_243 rfl rfl rfl ?_
    refine sm_isBill ?_
    refine ev_ifz_ne k205_4 (fun g4 => ?_) (fun g4 => Bool.noConfusion (Eq.trans (Eq.symm h4) g4))
    refine ev_iconst k205_14 ?_
    refine ev_ist2 k205_15 rfl ?_
    have g92 : wnS fd (hWI I 11 nc g) 92 = I 92 := (wnS_ne (by decide)).trans (hWI_ne (by decide) (by decide))
    refine lm_moves (S := cells I 11) (nc := nc) (np := np) (b := a) (by rw [g92]; exact hs) (fun K m hK hm => ?_) (fun K hK hm => ?_) 3 0 _ rfl rfl (sc_rf _)
    · rw [hmv] at hm
      subst hm
      exact ⟨rfl, Inv_sc inv2 hK⟩
    · rw [hmv] at hm
      subst hm
      exact ⟨rfl, Inv_sc (Inv_e rfl rfl inv2) (sc_up95 hK)⟩
  ·
    refine ev_ald0 k96_7 ?_
    refine ev_ldc k96_8 ?_
    refine ev_cV2i k96_10 cs_174 (by first | assumption | rfl) (by omega) (Nat.le_of_ble_eq_true rfl) rfl rfl rfl ?_
    refine sp_error (k := 1) (by decide) (by decide) (by decide) ?_
    refine ev_ri k96_13 rfl ?_
    refine hQ _ _ ?_
    show mm_Ev mm_T0 X (d + 60) 205 0 [.ref 91, .int _, .retAddr 0] [] _ (mm_pi _)
    refine ev_ild1 k205_0 ?_
    refine ev_cS1i k205_1 cs_243 rfl rfl rfl ?_
    refine sm_isBill ?_
    refine ev_ifz_ne k205_4 (fun g4 => Bool.noConfusion (Eq.trans (Eq.symm h4) g4)) (fun g4 => ?_)
    refine ev_ald0 k205_7 ?_
    refine ev_ldc k205_8 ?_
    refine ev_cV2i k205_10 cs_238 (by first | assumption | rfl) (by omega) (Nat.le_of_ble_eq_true rfl) rfl rfl rfl ?_
    refine sm_error (k := 1) (by decide) (by decide) ?_
    refine ev_ri k205_13 rfl ?_
    first | exact ⟨rfl, Inv_e rfl rfl inv⟩ | exact ⟨rfl, inv⟩
