/-- CV.text -/
theorem op_text {X : Nat × (Nat → Int32)} {d : Nat} {I : mm_I} {P : Int32 → mm_I → Prop} {a : Int32} (inv : Inv I) (hQ : ∀ v J, mm_Ev mm_T0 X (d + 60) 182 0 (mm_ent 182 [.ref 91, .int a]) [] J (mm_pi fun w K => w = v ∧ Inv K) → P v J) : mm_Ev mm_T0 X (d + 60) 86 0 (mm_ent 86 [.ref 0, .int a]) [] I (mm_pi P) := by
  show mm_Ev mm_T0 X (d + 60) 86 0 [.ref 0, .int a, .retAddr 0] [] I (mm_pi P)
  obtain ⟨nc, np, hs⟩ := inv.1
  obtain ⟨c1, n6, p1, p6, rc, rp, rm, ok, sr, tt⟩ := hsF hs
  have t0 := tCV
  have tm := tM
  have tr := tR
  obtain ⟨L, tl1, tl2, tl3, tl4, tl5⟩ := hs.2.2.2.2.1.1
  refine ev_ild1 k86_0 ?_
  refine ev_cS1i k86_1 cs_186 rfl rfl rfl ?_
  refine sp_isUse ?_
  refine ev_ifz_ne k86_4 (fun h4 => ?_) (fun h4 => ?_)
  ·
    obtain ⟨w, hw, rfl⟩ := wB_le (hi := 1) (by omega) h4
    rcases (show w = 0 ∨ w = 1 by omega) with rfl | rfl
    ·
      refine ev_ald0 k86_14 ?_
      refine ev_getr k86_15 (by first | assumption | rfl) rfl rfl rfl ?_
      refine ev_ald0 k86_18 ?_
      refine ev_getr k86_19 (by first | assumption | rfl) rfl rfl rfl ?_
      refine ev_getr k86_22 (by first | assumption | rfl) rfl rfl rfl ?_
      refine ev_ild1 k86_25 ?_
      refine ev_if_ne k86_26 (fun h26 => absurd rfl h26) (fun h26 => ?_)
      refine ev_ldc k86_29 ?_
      refine ev_goto k86_31 ?_
      refine ev_cV3i k86_36 cs_187 (by first | assumption | rfl) (by omega) (Nat.le_of_ble_eq_true rfl) rfl rfl rfl ?_
      refine sp_faultOf0 (L := L) (f := I 29) tl1 tl3 inv.2.2.2.2.2.1 rfl (fun j hj => (tl5 j hj).2) (fun v K hv => ?_)
      rcases hv with ⟨hfr, h32, ⟨hk, hr, rfl, h2, htc⟩ | ⟨hno, rfl⟩⟩
      ·
        refine ev_ist2 k86_39 rfl ?_
        refine ev_ald0 k86_40 ?_
        refine ev_getr k86_41 (by first | assumption | rfl) rfl rfl rfl ?_
        refine ev_getr k86_44 (by first | assumption | rfl) rfl rfl rfl ?_
        refine ev_cV1v k86_47 cs_188 (by first | assumption | rfl) (by omega) (Nat.le_of_ble_eq_true rfl) rfl rfl rfl ?_
        refine sp_clear (ra := 28) rfl ?_
        refine ev_ild2 k86_50 ?_
        refine ev_iconst k86_51 ?_
        refine ev_icmp_eq k86_52 (fun h52 => ?_) (fun h52 => absurd rfl h52)
        refine ev_ald0 k86_60 ?_
        refine ev_ild1 k86_61 ?_
        refine ev_cV2r k86_62 cs_189 (by first | assumption | rfl) (by omega) (Nat.le_of_ble_eq_true rfl) rfl rfl rfl ?_
        refine sp_textOf ?_
        rw [if_pos (show nI 0 = 0 from rfl)]
        refine ev_getr k86_65 (by first | assumption | rfl) rfl rfl rfl ?_
        refine ev_ald0 k86_68 ?_
        refine ev_getr k86_69 (by first | assumption | rfl) rfl rfl rfl ?_
        refine ev_getr k86_72 (by first | assumption | rfl) rfl rfl rfl ?_
        refine ev_cV2v k86_75 cs_190 (by first | assumption | rfl) (by omega) (Nat.le_of_ble_eq_true rfl) rfl rfl rfl ?_
        have hln0 : (rT (I 29) L 0).2.1.length ≤ 50 := by have z := (rT_ok (f := I 29) (u := 0) tl1 (fun j hj => (tl5 j hj).2)).1.2.2 hk; omega
        refine sp_copyFromR (ra := 21) (rb := 75) (N := 50) (N2 := 50) (n := (rT (I 29) L 0).2.1.length) rfl rfl (by decide) rfl rfl (by decide) (by decide) (by decide) (by decide) (show mm_up K 28 2 0 75 2 = _ from by rw [mm_up_ne _ _ _ _ _ (by decide)]; exact h2) hln0 hln0 (by decide) (fun M g1 g2 g3 g4 => ?_)
        refine ev_iconst k86_78 ?_
        refine ev_ri k86_79 rfl ?_
        refine hQ _ _ ?_
        show mm_Ev mm_T0 X (d + 60) 182 0 [.ref 91, .int _, .retAddr 0, .retAddr 0] [] _ (mm_pi _)
        refine ev_ild1 k182_0 ?_
        refine ev_iconst k182_1 ?_
        refine ev_iconst k182_2 ?_
        refine ev_cS3i k182_3 cs_224 rfl rfl rfl ?_
        refine sp_in ?_
        refine ev_ifz_ne k182_6 (fun g6 => ?_) (fun g6 => Bool.noConfusion (Eq.trans (Eq.symm h4) g6))
        refine ev_ald0 k182_16 ?_
        refine ev_ild1 k182_17 ?_
        refine ev_pf (j := 13) k182_18 (by first | assumption | rfl) rfl rfl rfl ?_
        refine ev_ald0 k182_21 ?_
        refine ev_iconst k182_22 ?_
        refine ev_pf (j := 9) k182_23 (by first | assumption | rfl) rfl rfl rfl ?_
        refine ev_ald0 k182_26 ?_
        refine ev_iconst k182_27 ?_
        refine ev_pf (j := 10) k182_28 (by first | assumption | rfl) rfl rfl rfl ?_
        refine ev_ald0 k182_31 ?_
        refine ev_iconst k182_32 ?_
        refine ev_pf (j := 11) k182_33 (by first | assumption | rfl) rfl rfl rfl ?_
        refine ev_ald0 k182_36 ?_
        refine ev_iconst k182_37 ?_
        refine ev_pz (j := 12) k182_38 (by first | assumption | rfl) rfl rfl (by first | exact Or.inl rfl | exact Or.inr rfl | assumption) rfl ?_
        refine ev_ald0 k182_41 ?_
        refine ev_cV1v k182_42 cs_249 (by first | assumption | rfl) (by omega) (Nat.le_of_ble_eq_true rfl) rfl rfl rfl ?_
        have fZ : ∀ k, k ≠ 28 → ¬ (74 ≤ k ∧ k ≤ 78) → k ≠ 21 → k ≠ 22 → (M) k = I k := fun k a b c e => by rw [g1 k c e, mm_up_ne _ _ _ _ _ a]; exact hfr k b
        generalize hN0 : mm_up (mm_up (mm_up (mm_up (mm_up (M) 91 13 (nI 0)) 91 9 0) 91 10 0) 91 11 0) 91 12 0 = N0
        have fN : ∀ k, k ≠ 91 → N0 k = (M) k := fun k hk => by rw [← hN0, mm_up_ne _ _ _ _ _ hk, mm_up_ne _ _ _ _ _ hk, mm_up_ne _ _ _ _ _ hk, mm_up_ne _ _ _ _ _ hk, mm_up_ne _ _ _ _ _ hk]
        have fN1 : ∀ q, q < 9 ∨ 13 < q → N0 91 q = I 91 q := fun q hq => by rw [← hN0, mm_up_at, if_neg (by omega), mm_up_at, if_neg (by omega), mm_up_at, if_neg (by omega), mm_up_at, if_neg (by omega), mm_up_at, if_neg (by omega), fZ 91 (by decide) (by decide) (by decide) (by decide)]
        have n92 : N0 92 = I 92 := (fN 92 (by decide)).trans (fZ 92 (by decide) (by decide) (by decide) (by decide))
        have n5 : N0 92 5 = nI L := by rw [n92]; exact tl4
        have hb : mdB N0 (gT (I 29) L) 0 L := ⟨gT_ok tl1 (fun j hj => (tl5 j hj).2), by decide, by rw [← hN0, mm_up_at, if_neg (by omega), mm_up_at, if_neg (by omega), mm_up_at, if_neg (by omega), mm_up_at, if_neg (by omega), mm_up_at, if_pos ⟨rfl, rfl⟩], n5, fun p hp => by rw [n92]; exact ((tl5 p hp).1.symm.trans (if_pos hp).symm)⟩
        have h0 : mdE N0 N0 0 0 [] := ⟨fun _ _ _ _ => rfl, fun _ _ _ _ _ => rfl, by rw [← hN0, mm_up_at, if_neg (by omega), mm_up_at, if_neg (by omega), mm_up_at, if_neg (by omega), mm_up_at, if_pos ⟨rfl, rfl⟩]; rfl, by rw [← hN0, mm_up_at, if_neg (by omega), mm_up_at, if_neg (by omega), mm_up_at, if_pos ⟨rfl, rfl⟩]; rfl, by rw [← hN0, mm_up_at, if_neg (by omega), mm_up_at, if_pos ⟨rfl, rfl⟩]; rfl, by rw [← hN0, mm_up_at, if_pos ⟨rfl, rfl⟩], trivial⟩
        refine sm_anyR hb h0 (fun Q hv2 => ?_)
        replace hv2 : ((rT (I 29) L 0).2.2 = true ∧ mdE N0 Q 0 (rT (I 29) L 0).1 (rT (I 29) L 0).2.1) ∨ ((rT (I 29) L 0).2.2 = false ∧ mdF N0 Q (rT (I 29) L 0).1) := hv2
        have hrL : (rT (I 29) L 0).1 ≤ L := (rT_ok (f := I 29) tl1 (fun j hj => (tl5 j hj).2)).1.2.1
        have hm : mdE N0 Q 0 L (rT (I 29) L 0).2.1 := by
          rcases hv2 with ⟨-, z⟩ | ⟨z, -⟩
          · rw [hr] at z; exact z
          · exact Bool.noConfusion (Eq.trans (Eq.symm hk) z)
        refine ev_ald0 k182_45 ?_
        refine ev_ald0 k182_46 ?_
        refine ev_gfv (j := 12) k182_47 (by first | assumption | rfl) rfl rfl rfl rfl hm.2.2.2.2.2.1 ?_
        refine ev_if_ne k182_50 (fun g50 => absurd rfl g50) (fun g50 => ?_)
        refine ev_ald0 k182_53 ?_
        refine ev_gfv (j := 10) k182_54 (by first | assumption | rfl) rfl rfl rfl rfl hm.2.2.2.1 ?_
        refine ev_ald0 k182_57 ?_
        refine ev_getr k182_58 (by first | assumption | rfl) rfl rfl rfl ?_
        refine ev_iconst k182_61 ?_
        refine ev_ialv (j := 5) k182_62 (by first | assumption | rfl) (by omega) rfl (vp_dec rfl) ((congrFun (hm.1 92 (by decide) (by decide) (by decide)) 5).trans n5) ?_
        refine ev_jcmp_ge k182_63 (fun g63 => ?_) (fun g63 => absurd g63 (nI_nlt (Nat.le_refl _) (by omega)))
        refine ev_iconst k182_70 ?_
        refine ev_pz (j := 12) k182_71 (by first | assumption | rfl) rfl rfl (by first | exact Or.inl rfl | exact Or.inr rfl | assumption) rfl ?_
        refine ev_ald0 k182_74 ?_
        refine ev_getr k182_75 (by first | assumption | rfl) rfl rfl rfl ?_
        refine ev_iconst k182_78 ?_
        refine ev_iconst k182_79 ?_
        refine ev_ias (j := 5) k182_80 (by first | assumption | rfl) rfl (vp_dec rfl) ?_
        refine ev_ald0 k182_81 ?_
        refine ev_gfv (j := 12) k182_82 (by first | assumption | rfl) rfl rfl rfl rfl (show _ = (0 : Int32) from by rw [mm_up_ne _ _ _ _ _ (by decide), mm_up_at, if_pos ⟨rfl, rfl⟩]) ?_
        refine ev_if_eq k182_85 (fun g85 => ?_) (fun g85 => absurd rfl g85)
        refine ev_bipush k182_96 ?_
        refine ev_bipush k182_98 ?_
        refine ev_ild1 k182_100 ?_
        refine ev_imul k182_101 ?_
        refine ev_iadd k182_102 ?_
        rw [show (119 : Int32) + 101 * nI 0 = nI 119 from by decide]
        refine ev_ist2 k182_103 rfl ?_
        refine ev_ald0 k182_104 ?_
        refine ev_getr k182_105 (by first | assumption | rfl) rfl rfl rfl ?_
        refine ev_ild2 k182_108 ?_
        refine ev_ald0 k182_109 ?_
        refine ev_gfv (j := 9) k182_110 (by first | assumption | rfl) rfl rfl rfl rfl (show _ = nI (rT (I 29) L 0).2.1.length from by rw [mm_up_ne _ _ _ _ _ (by decide), mm_up_at, if_neg (by omega)]; exact hm.2.2.1) ?_
        refine ev_ias (j := 119) k182_113 (by first | assumption | rfl) (nI_clamp (by decide)) (vp_in_nI (show 119 < 321 by decide) (by decide)) ?_
        refine ev_iconst k182_114 ?_
        refine ev_ist3 k182_115 rfl ?_
        have hln : (rT (I 29) L 0).2.1.length ≤ 50 := by have z := (rT_ok (f := I 29) (u := 0) tl1 (fun j hj => (tl5 j hj).2)).1.2.2 hk; omega
        refine lm_txt (a := 119) (n0 := (rT (I 29) L 0).2.1.length) (show _ = nI (rT (I 29) L 0).2.1.length from by rw [mm_up_ne _ _ _ _ _ (by decide), mm_up_ne _ _ _ _ _ (by decide), mm_up_at, if_neg (by omega)]; exact hm.2.2.1) hln (by decide) (fun F hF => ?_) ((rT (I 29) L 0).2.1.length) 0 _ (by omega) ⟨fun _ _ => rfl, fun _ _ => rfl, fun q hq => absurd hq (Nat.not_lt_zero _)⟩
        obtain ⟨oks, -⟩ := okL_S (rT (I 29) L 0).2.1 1 htc ((rT_ok (f := I 29) tl1 (fun j hj => (tl5 j hj).2)).2 hk)
        have hl1 : 1 ≤ (rT (I 29) L 0).2.1.length := by
          have z := (rT_ok (f := I 29) (u := 0) tl1 (fun j hj => (tl5 j hj).2)).2 hk
          cases e : (rT (I 29) L 0).2.1 with
          | nil => rw [e] at z; exact absurd (show (1 : Nat) = 0 from z) (by decide)
          | cons x y => simp
        have f1 : ∀ k, k ≠ 91 → k ≠ 92 → k ≠ 96 → k ≠ 97 → F k = M k := fun k a b c d => by rw [hF.1 k b, mm_up_ne _ _ _ _ _ b, mm_up_ne _ _ _ _ _ b, mm_up_ne _ _ _ _ _ a, hm.1 k a c d, fN k a]
        have f2 : ∀ k, k ≠ 91 → k ≠ 92 → k ≠ 96 → k ≠ 97 → k ≠ 28 → ¬ (74 ≤ k ∧ k ≤ 78) → k ≠ 21 → k ≠ 22 → F k = I k := fun k a b c d e f g h => (f1 k a b c d).trans (fZ k e f g h)
        have f91 : ∀ q, q < 9 ∨ 13 < q → F 91 q = I 91 q := fun q hq => by rw [hF.1 91 (by decide), mm_up_ne _ _ _ _ _ (by decide), mm_up_ne _ _ _ _ _ (by decide), mm_up_at, if_neg (by omega), hm.2.1 q (by omega) (by omega) (by omega) (by omega)]; exact fN1 q hq
        have eF : ∀ j, j < (rT (I 29) L 0).2.1.length → F 22 j = K 76 j := fun j hj => by rw [f1 22 (by decide) (by decide) (by decide) (by decide)]; exact (g4 j hj).trans (congrFun (mm_up_ne _ _ _ _ _ (by decide)) j)
        have q96 : ∀ j, F 92 j = F 92 j := fun _ => rfl
        refine ⟨rfl, Inv_tx (nc := nc) (np := np) inv (HS_text (w := 0) (n := (rT (I 29) L 0).2.1.length) (HS_t0 hs) (by decide) hl1 hln (fun k hk h10 h11 => ?_) ?_ (fun j hj hj2 => ?_) ?_ (fun i hi => ?_) ?_) (fun k hk => f2 k (by omega) (by omega) (by omega) (by omega) (by omega) (by omega) (by omega) (by omega)) (f91 3 (by omega)) (f91 15 (by omega)) ?_⟩
        · rw [← cells_up]
          show F (11 + k) = mm_up I 28 2 0 (11 + k)
          by_cases z : k = 17
          · rw [z, f1 28 (by decide) (by decide) (by decide) (by decide), g1 28 (by decide) (by decide)]
            funext j
            show mm_up K 28 2 0 28 j = mm_up I 28 2 0 28 j
            rw [mm_up_at, mm_up_at, hfr 28 (by decide)]
          · rw [mm_up_ne _ _ _ _ _ (by omega)]; exact f2 _ (by omega) (by omega) (by omega) (by omega) (by omega) (by omega) (by omega) (by omega)
        · show F 21 2 = _
          rw [f1 21 (by decide) (by decide) (by decide) (by decide)]; exact g3
        · rw [hF.2.1 j (fun q hq => by omega), mm_up_at, if_neg (by omega), mm_up_at, mm_up_ne _ _ _ _ _ (by decide), hm.1 92 (by decide) (by decide) (by decide), n92]
          by_cases z : j = 5
          · rw [if_pos ⟨rfl, z⟩]; simp [upd, z]
          · rw [if_neg (fun t => z t.2)]; simp [upd, z]
        · show F 92 119 = _
          rw [hF.2.1 119 (fun q hq => by omega), mm_up_at, if_pos ⟨rfl, rfl⟩]
        · show stR (F 22 i) (F 92 (119 + 1 + i)) (F 92 (119 + 51 + i))
          rw [eF i hi, (hF.2.2 i hi).1, (hF.2.2 i hi).2]
          repeat rw [mm_up_ne _ _ _ _ _ (by decide)]
          exact tc_mc _ htc hm.2.2.2.2.2.2 i hi
        · exact okS_congr _ _ _ (fun j _ hj => eF j (by omega)) oks
        · rw [f1 75 (by decide) (by decide) (by decide) (by decide), g1 75 (by decide) (by decide), mm_up_ne _ _ _ _ _ (by decide)]; exact h32
      ·
        refine ev_ist2 k86_39 rfl ?_
        refine ev_ald0 k86_40 ?_
        refine ev_getr k86_41 (by first | assumption | rfl) rfl rfl rfl ?_
        refine ev_getr k86_44 (by first | assumption | rfl) rfl rfl rfl ?_
        refine ev_cV1v k86_47 cs_188 (by first | assumption | rfl) (by omega) (Nat.le_of_ble_eq_true rfl) rfl rfl rfl ?_
        refine sp_clear (ra := 28) rfl ?_
        refine ev_ild2 k86_50 ?_
        refine ev_iconst k86_51 ?_
        refine ev_icmp_eq k86_52 (fun h52 => absurd h52 (m1_ne (by have := (rT_ok (f := I 29) (u := 0) tl1 (fun j hj => (tl5 j hj).2)).1.2.1; omega))) (fun h52 => ?_)
        refine ev_bipush k86_55 ?_
        refine ev_ild2 k86_57 ?_
        refine ev_isub k86_58 ?_
        refine ev_ri k86_59 rfl ?_
        refine hQ _ _ ?_
        show mm_Ev mm_T0 X (d + 60) 182 0 [.ref 91, .int _, .retAddr 0, .retAddr 0] [] _ (mm_pi _)
        refine ev_ild1 k182_0 ?_
        refine ev_iconst k182_1 ?_
        refine ev_iconst k182_2 ?_
        refine ev_cS3i k182_3 cs_224 rfl rfl rfl ?_
        refine sp_in ?_
        refine ev_ifz_ne k182_6 (fun g6 => ?_) (fun g6 => Bool.noConfusion (Eq.trans (Eq.symm h4) g6))
        refine ev_ald0 k182_16 ?_
        refine ev_ild1 k182_17 ?_
        refine ev_pf (j := 13) k182_18 (by first | assumption | rfl) rfl rfl rfl ?_
        refine ev_ald0 k182_21 ?_
        refine ev_iconst k182_22 ?_
        refine ev_pf (j := 9) k182_23 (by first | assumption | rfl) rfl rfl rfl ?_
        refine ev_ald0 k182_26 ?_
        refine ev_iconst k182_27 ?_
        refine ev_pf (j := 10) k182_28 (by first | assumption | rfl) rfl rfl rfl ?_
        refine ev_ald0 k182_31 ?_
        refine ev_iconst k182_32 ?_
        refine ev_pf (j := 11) k182_33 (by first | assumption | rfl) rfl rfl rfl ?_
        refine ev_ald0 k182_36 ?_
        refine ev_iconst k182_37 ?_
        refine ev_pz (j := 12) k182_38 (by first | assumption | rfl) rfl rfl (by first | exact Or.inl rfl | exact Or.inr rfl | assumption) rfl ?_
        refine ev_ald0 k182_41 ?_
        refine ev_cV1v k182_42 cs_249 (by first | assumption | rfl) (by omega) (Nat.le_of_ble_eq_true rfl) rfl rfl rfl ?_
        have fZ : ∀ k, k ≠ 28 → ¬ (74 ≤ k ∧ k ≤ 78) → k ≠ 21 → k ≠ 22 → (mm_up K 28 2 0) k = I k := fun k a b c e => by rw [mm_up_ne _ _ _ _ _ a]; exact hfr k b
        generalize hN0 : mm_up (mm_up (mm_up (mm_up (mm_up (mm_up K 28 2 0) 91 13 (nI 0)) 91 9 0) 91 10 0) 91 11 0) 91 12 0 = N0
        have fN : ∀ k, k ≠ 91 → N0 k = (mm_up K 28 2 0) k := fun k hk => by rw [← hN0, mm_up_ne _ _ _ _ _ hk, mm_up_ne _ _ _ _ _ hk, mm_up_ne _ _ _ _ _ hk, mm_up_ne _ _ _ _ _ hk, mm_up_ne _ _ _ _ _ hk]
        have fN1 : ∀ q, q < 9 ∨ 13 < q → N0 91 q = I 91 q := fun q hq => by rw [← hN0, mm_up_at, if_neg (by omega), mm_up_at, if_neg (by omega), mm_up_at, if_neg (by omega), mm_up_at, if_neg (by omega), mm_up_at, if_neg (by omega), fZ 91 (by decide) (by decide) (by decide) (by decide)]
        have n92 : N0 92 = I 92 := (fN 92 (by decide)).trans (fZ 92 (by decide) (by decide) (by decide) (by decide))
        have n5 : N0 92 5 = nI L := by rw [n92]; exact tl4
        have hb : mdB N0 (gT (I 29) L) 0 L := ⟨gT_ok tl1 (fun j hj => (tl5 j hj).2), by decide, by rw [← hN0, mm_up_at, if_neg (by omega), mm_up_at, if_neg (by omega), mm_up_at, if_neg (by omega), mm_up_at, if_neg (by omega), mm_up_at, if_pos ⟨rfl, rfl⟩], n5, fun p hp => by rw [n92]; exact ((tl5 p hp).1.symm.trans (if_pos hp).symm)⟩
        have h0 : mdE N0 N0 0 0 [] := ⟨fun _ _ _ _ => rfl, fun _ _ _ _ _ => rfl, by rw [← hN0, mm_up_at, if_neg (by omega), mm_up_at, if_neg (by omega), mm_up_at, if_neg (by omega), mm_up_at, if_pos ⟨rfl, rfl⟩]; rfl, by rw [← hN0, mm_up_at, if_neg (by omega), mm_up_at, if_neg (by omega), mm_up_at, if_pos ⟨rfl, rfl⟩]; rfl, by rw [← hN0, mm_up_at, if_neg (by omega), mm_up_at, if_pos ⟨rfl, rfl⟩]; rfl, by rw [← hN0, mm_up_at, if_pos ⟨rfl, rfl⟩], trivial⟩
        refine sm_anyR hb h0 (fun Q hv2 => ?_)
        replace hv2 : ((rT (I 29) L 0).2.2 = true ∧ mdE N0 Q 0 (rT (I 29) L 0).1 (rT (I 29) L 0).2.1) ∨ ((rT (I 29) L 0).2.2 = false ∧ mdF N0 Q (rT (I 29) L 0).1) := hv2
        have hrL : (rT (I 29) L 0).1 ≤ L := (rT_ok (f := I 29) tl1 (fun j hj => (tl5 j hj).2)).1.2.1
        have hm : Q 91 10 = nI (rT (I 29) L 0).1 ∧ (Q 91 12 = 0 → (rT (I 29) L 0).1 < L) ∧ (∀ k, k ≠ 91 → k ≠ 96 → k ≠ 97 → Q k = N0 k) ∧ (∀ q, q ≠ 9 → q ≠ 10 → q ≠ 11 → q ≠ 12 → Q 91 q = N0 91 q) := by
          rcases hv2 with ⟨z0, z⟩ | ⟨z0, z⟩
          · exact ⟨z.2.2.2.1, fun _ => Nat.lt_of_le_of_ne hrL (fun t => hno ⟨z0, t⟩), z.1, z.2.1⟩
          · exact ⟨z.2.2.1, fun t => by rw [z.2.2.2.1] at t; exact absurd t (by decide), z.1, z.2.1⟩
        refine ev_ald0 k182_45 ?_
        refine ev_ald0 k182_46 ?_
        refine ev_gf (j := 12) k182_47 (by first | assumption | rfl) rfl rfl rfl rfl ?_
        refine ev_if_ne k182_50 (fun g50 => ?_) (fun g50 => ?_)
        ·
          refine ev_iconst k182_66 ?_
          refine ev_goto k182_67 ?_
          refine ev_pz (j := 12) k182_71 (by first | assumption | rfl) rfl rfl (by first | exact Or.inl rfl | exact Or.inr rfl | assumption) rfl ?_
          refine ev_ald0 k182_74 ?_
          refine ev_getr k182_75 (by first | assumption | rfl) rfl rfl rfl ?_
          refine ev_iconst k182_78 ?_
          refine ev_iconst k182_79 ?_
          refine ev_ias (j := 5) k182_80 (by first | assumption | rfl) rfl (vp_dec rfl) ?_
          refine ev_ald0 k182_81 ?_
          refine ev_gfv (j := 12) k182_82 (by first | assumption | rfl) rfl rfl rfl rfl (show _ = (1 : Int32) from by rw [mm_up_ne _ _ _ _ _ (by decide), mm_up_at, if_pos ⟨rfl, rfl⟩]) ?_
          refine ev_if_eq k182_85 (fun g85 => absurd g85 (by decide)) (fun g85 => ?_)
          refine ev_bipush k182_88 ?_
          refine ev_ald0 k182_90 ?_
          refine ev_gfv (j := 10) k182_91 (by first | assumption | rfl) rfl rfl rfl rfl (show _ = nI (rT (I 29) L 0).1 from by rw [mm_up_ne _ _ _ _ _ (by decide), mm_up_at, if_neg (by omega)]; exact hm.1) ?_
          refine ev_isub k182_94 ?_
          refine ev_ri k182_95 rfl ?_
          generalize hF : mm_up (mm_up Q 91 12 1) 92 5 0 = F
          have f1 : ∀ k, k ≠ 91 → k ≠ 92 → k ≠ 96 → k ≠ 97 → k ≠ 28 → ¬ (74 ≤ k ∧ k ≤ 78) → F k = I k := fun k a b c d e f => by rw [← hF, mm_up_ne _ _ _ _ _ b, mm_up_ne _ _ _ _ _ a, hm.2.2.1 k a c d, fN k a, mm_up_ne _ _ _ _ _ e]; exact hfr k f
          have f91 : ∀ q, q < 9 ∨ 13 < q → F 91 q = I 91 q := fun q hq => by rw [← hF, mm_up_ne _ _ _ _ _ (by decide), mm_up_at, if_neg (by omega), hm.2.2.2 q (by omega) (by omega) (by omega) (by omega)]; exact fN1 q hq
          refine ⟨rfl, Inv_tx (nc := nc) (np := np) inv (HS_congr (fun k hk _ _ _ => ?_) (fun j hj => ?_) (HS_t0 hs)) (fun k hk => f1 k (by omega) (by omega) (by omega) (by omega) (by omega) (by omega)) (f91 3 (by omega)) (f91 15 (by omega)) ?_⟩
          · rw [← cells_up]
            show F (11 + k) = mm_up I 28 2 0 (11 + k)
            by_cases z : k = 17
            · rw [z, ← hF, mm_up_ne _ _ _ _ _ (by decide), mm_up_ne _ _ _ _ _ (by decide), hm.2.2.1 28 (by decide) (by decide) (by decide), fN 28 (by decide)]
              funext j
              show mm_up K 28 2 0 28 j = mm_up I 28 2 0 28 j
              rw [mm_up_at, mm_up_at, hfr 28 (by decide)]
            · rw [mm_up_ne _ _ _ _ _ (by omega)]; exact f1 _ (by omega) (by omega) (by omega) (by omega) (by omega) (by omega)
          · rw [← hF, mm_up_at, mm_up_ne _ _ _ _ _ (by decide), hm.2.2.1 92 (by decide) (by decide) (by decide), n92]
            by_cases z : j = 5
            · rw [if_pos ⟨rfl, z⟩]; simp [upd, z]
            · rw [if_neg (fun t => z t.2)]; simp [upd, z]
          · rw [← hF, mm_up_ne _ _ _ _ _ (by decide), mm_up_ne _ _ _ _ _ (by decide), hm.2.2.1 75 (by decide) (by decide) (by decide), fN 75 (by decide), mm_up_ne _ _ _ _ _ (by decide)]; exact h32
        ·
          refine ev_ald0 k182_53 ?_
          refine ev_gfv (j := 10) k182_54 (by first | assumption | rfl) rfl rfl rfl rfl hm.1 ?_
          refine ev_ald0 k182_57 ?_
          refine ev_getr k182_58 (by first | assumption | rfl) rfl rfl rfl ?_
          refine ev_iconst k182_61 ?_
          refine ev_ialv (j := 5) k182_62 (by first | assumption | rfl) (by omega) rfl (vp_dec rfl) ((congrFun (hm.2.2.1 92 (by decide) (by decide) (by decide)) 5).trans n5) ?_
          refine ev_jcmp_ge k182_63 (fun g63 => absurd (nI_lt (hm.2.1 g50) (by omega)) g63) (fun g63 => ?_)
          refine ev_iconst k182_66 ?_
          refine ev_goto k182_67 ?_
          refine ev_pz (j := 12) k182_71 (by first | assumption | rfl) rfl rfl (by first | exact Or.inl rfl | exact Or.inr rfl | assumption) rfl ?_
          refine ev_ald0 k182_74 ?_
          refine ev_getr k182_75 (by first | assumption | rfl) rfl rfl rfl ?_
          refine ev_iconst k182_78 ?_
          refine ev_iconst k182_79 ?_
          refine ev_ias (j := 5) k182_80 (by first | assumption | rfl) rfl (vp_dec rfl) ?_
          refine ev_ald0 k182_81 ?_
          refine ev_gfv (j := 12) k182_82 (by first | assumption | rfl) rfl rfl rfl rfl (show _ = (1 : Int32) from by rw [mm_up_ne _ _ _ _ _ (by decide), mm_up_at, if_pos ⟨rfl, rfl⟩]) ?_
          refine ev_if_eq k182_85 (fun g85 => absurd g85 (by decide)) (fun g85 => ?_)
          refine ev_bipush k182_88 ?_
          refine ev_ald0 k182_90 ?_
          refine ev_gfv (j := 10) k182_91 (by first | assumption | rfl) rfl rfl rfl rfl (show _ = nI (rT (I 29) L 0).1 from by rw [mm_up_ne _ _ _ _ _ (by decide), mm_up_at, if_neg (by omega)]; exact hm.1) ?_
          refine ev_isub k182_94 ?_
          refine ev_ri k182_95 rfl ?_
          generalize hF : mm_up (mm_up Q 91 12 1) 92 5 0 = F
          have f1 : ∀ k, k ≠ 91 → k ≠ 92 → k ≠ 96 → k ≠ 97 → k ≠ 28 → ¬ (74 ≤ k ∧ k ≤ 78) → F k = I k := fun k a b c d e f => by rw [← hF, mm_up_ne _ _ _ _ _ b, mm_up_ne _ _ _ _ _ a, hm.2.2.1 k a c d, fN k a, mm_up_ne _ _ _ _ _ e]; exact hfr k f
          have f91 : ∀ q, q < 9 ∨ 13 < q → F 91 q = I 91 q := fun q hq => by rw [← hF, mm_up_ne _ _ _ _ _ (by decide), mm_up_at, if_neg (by omega), hm.2.2.2 q (by omega) (by omega) (by omega) (by omega)]; exact fN1 q hq
          refine ⟨rfl, Inv_tx (nc := nc) (np := np) inv (HS_congr (fun k hk _ _ _ => ?_) (fun j hj => ?_) (HS_t0 hs)) (fun k hk => f1 k (by omega) (by omega) (by omega) (by omega) (by omega) (by omega)) (f91 3 (by omega)) (f91 15 (by omega)) ?_⟩
          · rw [← cells_up]
            show F (11 + k) = mm_up I 28 2 0 (11 + k)
            by_cases z : k = 17
            · rw [z, ← hF, mm_up_ne _ _ _ _ _ (by decide), mm_up_ne _ _ _ _ _ (by decide), hm.2.2.1 28 (by decide) (by decide) (by decide), fN 28 (by decide)]
              funext j
              show mm_up K 28 2 0 28 j = mm_up I 28 2 0 28 j
              rw [mm_up_at, mm_up_at, hfr 28 (by decide)]
            · rw [mm_up_ne _ _ _ _ _ (by omega)]; exact f1 _ (by omega) (by omega) (by omega) (by omega) (by omega) (by omega)
          · rw [← hF, mm_up_at, mm_up_ne _ _ _ _ _ (by decide), hm.2.2.1 92 (by decide) (by decide) (by decide), n92]
            by_cases z : j = 5
            · rw [if_pos ⟨rfl, z⟩]; simp [upd, z]
            · rw [if_neg (fun t => z t.2)]; simp [upd, z]
          · rw [← hF, mm_up_ne _ _ _ _ _ (by decide), mm_up_ne _ _ _ _ _ (by decide), hm.2.2.1 75 (by decide) (by decide) (by decide), fN 75 (by decide), mm_up_ne _ _ _ _ _ (by decide)]; exact h32
    ·
      refine ev_ald0 k86_14 ?_
      refine ev_getr k86_15 (by first | assumption | rfl) rfl rfl rfl ?_
      refine ev_ald0 k86_18 ?_
      refine ev_getr k86_19 (by first | assumption | rfl) rfl rfl rfl ?_
      refine ev_getr k86_22 (by first | assumption | rfl) rfl rfl rfl ?_
      refine ev_ild1 k86_25 ?_
      refine ev_if_ne k86_26 (fun h26 => ?_) (fun h26 => absurd h26 (by decide))
      refine ev_ldc k86_34 ?_
      refine ev_cV3i k86_36 cs_187 (by first | assumption | rfl) (by omega) (Nat.le_of_ble_eq_true rfl) rfl rfl rfl ?_
      refine sp_faultOf1 (L := L) (f := I 29) tl1 tl3 inv.2.2.2.2.2.1 rfl (fun j hj => (tl5 j hj).2) (fun v K hv => ?_)
      rcases hv with ⟨hfr, h32, ⟨hk, hr, rfl, h2, htc⟩ | ⟨hno, rfl⟩⟩
      ·
        refine ev_ist2 k86_39 rfl ?_
        refine ev_ald0 k86_40 ?_
        refine ev_getr k86_41 (by first | assumption | rfl) rfl rfl rfl ?_
        refine ev_getr k86_44 (by first | assumption | rfl) rfl rfl rfl ?_
        refine ev_cV1v k86_47 cs_188 (by first | assumption | rfl) (by omega) (Nat.le_of_ble_eq_true rfl) rfl rfl rfl ?_
        refine sp_clear (ra := 28) rfl ?_
        refine ev_ild2 k86_50 ?_
        refine ev_iconst k86_51 ?_
        refine ev_icmp_eq k86_52 (fun h52 => ?_) (fun h52 => absurd rfl h52)
        refine ev_ald0 k86_60 ?_
        refine ev_ild1 k86_61 ?_
        refine ev_cV2r k86_62 cs_189 (by first | assumption | rfl) (by omega) (Nat.le_of_ble_eq_true rfl) rfl rfl rfl ?_
        refine sp_textOf ?_
        rw [if_neg (show ¬ nI 1 = 0 by decide)]
        refine ev_getr k86_65 (by first | assumption | rfl) rfl rfl rfl ?_
        refine ev_ald0 k86_68 ?_
        refine ev_getr k86_69 (by first | assumption | rfl) rfl rfl rfl ?_
        refine ev_getr k86_72 (by first | assumption | rfl) rfl rfl rfl ?_
        refine ev_cV2v k86_75 cs_190 (by first | assumption | rfl) (by omega) (Nat.le_of_ble_eq_true rfl) rfl rfl rfl ?_
        have hln0 : (rT (I 29) L 1).2.1.length ≤ 50 := by have z := (rT_ok (f := I 29) (u := 1) tl1 (fun j hj => (tl5 j hj).2)).1.2.2 hk; omega
        refine sp_copyFromR (ra := 25) (rb := 75) (N := 50) (N2 := 50) (n := (rT (I 29) L 1).2.1.length) rfl rfl (by decide) rfl rfl (by decide) (by decide) (by decide) (by decide) (show mm_up K 28 2 0 75 2 = _ from by rw [mm_up_ne _ _ _ _ _ (by decide)]; exact h2) hln0 hln0 (by decide) (fun M g1 g2 g3 g4 => ?_)
        refine ev_iconst k86_78 ?_
        refine ev_ri k86_79 rfl ?_
        refine hQ _ _ ?_
        show mm_Ev mm_T0 X (d + 60) 182 0 [.ref 91, .int _, .retAddr 0, .retAddr 0] [] _ (mm_pi _)
        refine ev_ild1 k182_0 ?_
        refine ev_iconst k182_1 ?_
        refine ev_iconst k182_2 ?_
        refine ev_cS3i k182_3 cs_224 rfl rfl rfl ?_
        refine sp_in ?_
        refine ev_ifz_ne k182_6 (fun g6 => ?_) (fun g6 => Bool.noConfusion (Eq.trans (Eq.symm h4) g6))
        refine ev_ald0 k182_16 ?_
        refine ev_ild1 k182_17 ?_
        refine ev_pf (j := 13) k182_18 (by first | assumption | rfl) rfl rfl rfl ?_
        refine ev_ald0 k182_21 ?_
        refine ev_iconst k182_22 ?_
        refine ev_pf (j := 9) k182_23 (by first | assumption | rfl) rfl rfl rfl ?_
        refine ev_ald0 k182_26 ?_
        refine ev_iconst k182_27 ?_
        refine ev_pf (j := 10) k182_28 (by first | assumption | rfl) rfl rfl rfl ?_
        refine ev_ald0 k182_31 ?_
        refine ev_iconst k182_32 ?_
        refine ev_pf (j := 11) k182_33 (by first | assumption | rfl) rfl rfl rfl ?_
        refine ev_ald0 k182_36 ?_
        refine ev_iconst k182_37 ?_
        refine ev_pz (j := 12) k182_38 (by first | assumption | rfl) rfl rfl (by first | exact Or.inl rfl | exact Or.inr rfl | assumption) rfl ?_
        refine ev_ald0 k182_41 ?_
        refine ev_cV1v k182_42 cs_249 (by first | assumption | rfl) (by omega) (Nat.le_of_ble_eq_true rfl) rfl rfl rfl ?_
        have fZ : ∀ k, k ≠ 28 → ¬ (74 ≤ k ∧ k ≤ 78) → k ≠ 25 → k ≠ 26 → (M) k = I k := fun k a b c e => by rw [g1 k c e, mm_up_ne _ _ _ _ _ a]; exact hfr k b
        generalize hN0 : mm_up (mm_up (mm_up (mm_up (mm_up (M) 91 13 (nI 1)) 91 9 0) 91 10 0) 91 11 0) 91 12 0 = N0
        have fN : ∀ k, k ≠ 91 → N0 k = (M) k := fun k hk => by rw [← hN0, mm_up_ne _ _ _ _ _ hk, mm_up_ne _ _ _ _ _ hk, mm_up_ne _ _ _ _ _ hk, mm_up_ne _ _ _ _ _ hk, mm_up_ne _ _ _ _ _ hk]
        have fN1 : ∀ q, q < 9 ∨ 13 < q → N0 91 q = I 91 q := fun q hq => by rw [← hN0, mm_up_at, if_neg (by omega), mm_up_at, if_neg (by omega), mm_up_at, if_neg (by omega), mm_up_at, if_neg (by omega), mm_up_at, if_neg (by omega), fZ 91 (by decide) (by decide) (by decide) (by decide)]
        have n92 : N0 92 = I 92 := (fN 92 (by decide)).trans (fZ 92 (by decide) (by decide) (by decide) (by decide))
        have n5 : N0 92 5 = nI L := by rw [n92]; exact tl4
        have hb : mdB N0 (gT (I 29) L) 1 L := ⟨gT_ok tl1 (fun j hj => (tl5 j hj).2), by decide, by rw [← hN0, mm_up_at, if_neg (by omega), mm_up_at, if_neg (by omega), mm_up_at, if_neg (by omega), mm_up_at, if_neg (by omega), mm_up_at, if_pos ⟨rfl, rfl⟩], n5, fun p hp => by rw [n92]; exact ((tl5 p hp).1.symm.trans (if_pos hp).symm)⟩
        have h0 : mdE N0 N0 0 0 [] := ⟨fun _ _ _ _ => rfl, fun _ _ _ _ _ => rfl, by rw [← hN0, mm_up_at, if_neg (by omega), mm_up_at, if_neg (by omega), mm_up_at, if_neg (by omega), mm_up_at, if_pos ⟨rfl, rfl⟩]; rfl, by rw [← hN0, mm_up_at, if_neg (by omega), mm_up_at, if_neg (by omega), mm_up_at, if_pos ⟨rfl, rfl⟩]; rfl, by rw [← hN0, mm_up_at, if_neg (by omega), mm_up_at, if_pos ⟨rfl, rfl⟩]; rfl, by rw [← hN0, mm_up_at, if_pos ⟨rfl, rfl⟩], trivial⟩
        refine sm_anyR hb h0 (fun Q hv2 => ?_)
        replace hv2 : ((rT (I 29) L 1).2.2 = true ∧ mdE N0 Q 0 (rT (I 29) L 1).1 (rT (I 29) L 1).2.1) ∨ ((rT (I 29) L 1).2.2 = false ∧ mdF N0 Q (rT (I 29) L 1).1) := hv2
        have hrL : (rT (I 29) L 1).1 ≤ L := (rT_ok (f := I 29) tl1 (fun j hj => (tl5 j hj).2)).1.2.1
        have hm : mdE N0 Q 0 L (rT (I 29) L 1).2.1 := by
          rcases hv2 with ⟨-, z⟩ | ⟨z, -⟩
          · rw [hr] at z; exact z
          · exact Bool.noConfusion (Eq.trans (Eq.symm hk) z)
        refine ev_ald0 k182_45 ?_
        refine ev_ald0 k182_46 ?_
        refine ev_gfv (j := 12) k182_47 (by first | assumption | rfl) rfl rfl rfl rfl hm.2.2.2.2.2.1 ?_
        refine ev_if_ne k182_50 (fun g50 => absurd rfl g50) (fun g50 => ?_)
        refine ev_ald0 k182_53 ?_
        refine ev_gfv (j := 10) k182_54 (by first | assumption | rfl) rfl rfl rfl rfl hm.2.2.2.1 ?_
        refine ev_ald0 k182_57 ?_
        refine ev_getr k182_58 (by first | assumption | rfl) rfl rfl rfl ?_
        refine ev_iconst k182_61 ?_
        refine ev_ialv (j := 5) k182_62 (by first | assumption | rfl) (by omega) rfl (vp_dec rfl) ((congrFun (hm.1 92 (by decide) (by decide) (by decide)) 5).trans n5) ?_
        refine ev_jcmp_ge k182_63 (fun g63 => ?_) (fun g63 => absurd g63 (nI_nlt (Nat.le_refl _) (by omega)))
        refine ev_iconst k182_70 ?_
        refine ev_pz (j := 12) k182_71 (by first | assumption | rfl) rfl rfl (by first | exact Or.inl rfl | exact Or.inr rfl | assumption) rfl ?_
        refine ev_ald0 k182_74 ?_
        refine ev_getr k182_75 (by first | assumption | rfl) rfl rfl rfl ?_
        refine ev_iconst k182_78 ?_
        refine ev_iconst k182_79 ?_
        refine ev_ias (j := 5) k182_80 (by first | assumption | rfl) rfl (vp_dec rfl) ?_
        refine ev_ald0 k182_81 ?_
        refine ev_gfv (j := 12) k182_82 (by first | assumption | rfl) rfl rfl rfl rfl (show _ = (0 : Int32) from by rw [mm_up_ne _ _ _ _ _ (by decide), mm_up_at, if_pos ⟨rfl, rfl⟩]) ?_
        refine ev_if_eq k182_85 (fun g85 => ?_) (fun g85 => absurd rfl g85)
        refine ev_bipush k182_96 ?_
        refine ev_bipush k182_98 ?_
        refine ev_ild1 k182_100 ?_
        refine ev_imul k182_101 ?_
        refine ev_iadd k182_102 ?_
        rw [show (119 : Int32) + 101 * nI 1 = nI 220 from by decide]
        refine ev_ist2 k182_103 rfl ?_
        refine ev_ald0 k182_104 ?_
        refine ev_getr k182_105 (by first | assumption | rfl) rfl rfl rfl ?_
        refine ev_ild2 k182_108 ?_
        refine ev_ald0 k182_109 ?_
        refine ev_gfv (j := 9) k182_110 (by first | assumption | rfl) rfl rfl rfl rfl (show _ = nI (rT (I 29) L 1).2.1.length from by rw [mm_up_ne _ _ _ _ _ (by decide), mm_up_at, if_neg (by omega)]; exact hm.2.2.1) ?_
        refine ev_ias (j := 220) k182_113 (by first | assumption | rfl) (nI_clamp (by decide)) (vp_in_nI (show 220 < 321 by decide) (by decide)) ?_
        refine ev_iconst k182_114 ?_
        refine ev_ist3 k182_115 rfl ?_
        have hln : (rT (I 29) L 1).2.1.length ≤ 50 := by have z := (rT_ok (f := I 29) (u := 1) tl1 (fun j hj => (tl5 j hj).2)).1.2.2 hk; omega
        refine lm_txt (a := 220) (n0 := (rT (I 29) L 1).2.1.length) (show _ = nI (rT (I 29) L 1).2.1.length from by rw [mm_up_ne _ _ _ _ _ (by decide), mm_up_ne _ _ _ _ _ (by decide), mm_up_at, if_neg (by omega)]; exact hm.2.2.1) hln (by decide) (fun F hF => ?_) ((rT (I 29) L 1).2.1.length) 0 _ (by omega) ⟨fun _ _ => rfl, fun _ _ => rfl, fun q hq => absurd hq (Nat.not_lt_zero _)⟩
        obtain ⟨oks, -⟩ := okL_S (rT (I 29) L 1).2.1 1 htc ((rT_ok (f := I 29) tl1 (fun j hj => (tl5 j hj).2)).2 hk)
        have hl1 : 1 ≤ (rT (I 29) L 1).2.1.length := by
          have z := (rT_ok (f := I 29) (u := 1) tl1 (fun j hj => (tl5 j hj).2)).2 hk
          cases e : (rT (I 29) L 1).2.1 with
          | nil => rw [e] at z; exact absurd (show (1 : Nat) = 0 from z) (by decide)
          | cons x y => simp
        have f1 : ∀ k, k ≠ 91 → k ≠ 92 → k ≠ 96 → k ≠ 97 → F k = M k := fun k a b c d => by rw [hF.1 k b, mm_up_ne _ _ _ _ _ b, mm_up_ne _ _ _ _ _ b, mm_up_ne _ _ _ _ _ a, hm.1 k a c d, fN k a]
        have f2 : ∀ k, k ≠ 91 → k ≠ 92 → k ≠ 96 → k ≠ 97 → k ≠ 28 → ¬ (74 ≤ k ∧ k ≤ 78) → k ≠ 25 → k ≠ 26 → F k = I k := fun k a b c d e f g h => (f1 k a b c d).trans (fZ k e f g h)
        have f91 : ∀ q, q < 9 ∨ 13 < q → F 91 q = I 91 q := fun q hq => by rw [hF.1 91 (by decide), mm_up_ne _ _ _ _ _ (by decide), mm_up_ne _ _ _ _ _ (by decide), mm_up_at, if_neg (by omega), hm.2.1 q (by omega) (by omega) (by omega) (by omega)]; exact fN1 q hq
        have eF : ∀ j, j < (rT (I 29) L 1).2.1.length → F 26 j = K 76 j := fun j hj => by rw [f1 26 (by decide) (by decide) (by decide) (by decide)]; exact (g4 j hj).trans (congrFun (mm_up_ne _ _ _ _ _ (by decide)) j)
        have q96 : ∀ j, F 92 j = F 92 j := fun _ => rfl
        refine ⟨rfl, Inv_tx (nc := nc) (np := np) inv (HS_text (w := 1) (n := (rT (I 29) L 1).2.1.length) (HS_t0 hs) (by decide) hl1 hln (fun k hk h10 h11 => ?_) ?_ (fun j hj hj2 => ?_) ?_ (fun i hi => ?_) ?_) (fun k hk => f2 k (by omega) (by omega) (by omega) (by omega) (by omega) (by omega) (by omega) (by omega)) (f91 3 (by omega)) (f91 15 (by omega)) ?_⟩
        · rw [← cells_up]
          show F (11 + k) = mm_up I 28 2 0 (11 + k)
          by_cases z : k = 17
          · rw [z, f1 28 (by decide) (by decide) (by decide) (by decide), g1 28 (by decide) (by decide)]
            funext j
            show mm_up K 28 2 0 28 j = mm_up I 28 2 0 28 j
            rw [mm_up_at, mm_up_at, hfr 28 (by decide)]
          · rw [mm_up_ne _ _ _ _ _ (by omega)]; exact f2 _ (by omega) (by omega) (by omega) (by omega) (by omega) (by omega) (by omega) (by omega)
        · show F 25 2 = _
          rw [f1 25 (by decide) (by decide) (by decide) (by decide)]; exact g3
        · rw [hF.2.1 j (fun q hq => by omega), mm_up_at, if_neg (by omega), mm_up_at, mm_up_ne _ _ _ _ _ (by decide), hm.1 92 (by decide) (by decide) (by decide), n92]
          by_cases z : j = 5
          · rw [if_pos ⟨rfl, z⟩]; simp [upd, z]
          · rw [if_neg (fun t => z t.2)]; simp [upd, z]
        · show F 92 220 = _
          rw [hF.2.1 220 (fun q hq => by omega), mm_up_at, if_pos ⟨rfl, rfl⟩]
        · show stR (F 26 i) (F 92 (220 + 1 + i)) (F 92 (220 + 51 + i))
          rw [eF i hi, (hF.2.2 i hi).1, (hF.2.2 i hi).2]
          repeat rw [mm_up_ne _ _ _ _ _ (by decide)]
          exact tc_mc _ htc hm.2.2.2.2.2.2 i hi
        · exact okS_congr _ _ _ (fun j _ hj => eF j (by omega)) oks
        · rw [f1 75 (by decide) (by decide) (by decide) (by decide), g1 75 (by decide) (by decide), mm_up_ne _ _ _ _ _ (by decide)]; exact h32
      ·
        refine ev_ist2 k86_39 rfl ?_
        refine ev_ald0 k86_40 ?_
        refine ev_getr k86_41 (by first | assumption | rfl) rfl rfl rfl ?_
        refine ev_getr k86_44 (by first | assumption | rfl) rfl rfl rfl ?_
        refine ev_cV1v k86_47 cs_188 (by first | assumption | rfl) (by omega) (Nat.le_of_ble_eq_true rfl) rfl rfl rfl ?_
        refine sp_clear (ra := 28) rfl ?_
        refine ev_ild2 k86_50 ?_
        refine ev_iconst k86_51 ?_
        refine ev_icmp_eq k86_52 (fun h52 => absurd h52 (m1_ne (by have := (rT_ok (f := I 29) (u := 1) tl1 (fun j hj => (tl5 j hj).2)).1.2.1; omega))) (fun h52 => ?_)
        refine ev_bipush k86_55 ?_
        refine ev_ild2 k86_57 ?_
        refine ev_isub k86_58 ?_
        refine ev_ri k86_59 rfl ?_
        refine hQ _ _ ?_
        show mm_Ev mm_T0 X (d + 60) 182 0 [.ref 91, .int _, .retAddr 0, .retAddr 0] [] _ (mm_pi _)
        refine ev_ild1 k182_0 ?_
        refine ev_iconst k182_1 ?_
        refine ev_iconst k182_2 ?_
        refine ev_cS3i k182_3 cs_224 rfl rfl rfl ?_
        refine sp_in ?_
        refine ev_ifz_ne k182_6 (fun g6 => ?_) (fun g6 => Bool.noConfusion (Eq.trans (Eq.symm h4) g6))
        refine ev_ald0 k182_16 ?_
        refine ev_ild1 k182_17 ?_
        refine ev_pf (j := 13) k182_18 (by first | assumption | rfl) rfl rfl rfl ?_
        refine ev_ald0 k182_21 ?_
        refine ev_iconst k182_22 ?_
        refine ev_pf (j := 9) k182_23 (by first | assumption | rfl) rfl rfl rfl ?_
        refine ev_ald0 k182_26 ?_
        refine ev_iconst k182_27 ?_
        refine ev_pf (j := 10) k182_28 (by first | assumption | rfl) rfl rfl rfl ?_
        refine ev_ald0 k182_31 ?_
        refine ev_iconst k182_32 ?_
        refine ev_pf (j := 11) k182_33 (by first | assumption | rfl) rfl rfl rfl ?_
        refine ev_ald0 k182_36 ?_
        refine ev_iconst k182_37 ?_
        refine ev_pz (j := 12) k182_38 (by first | assumption | rfl) rfl rfl (by first | exact Or.inl rfl | exact Or.inr rfl | assumption) rfl ?_
        refine ev_ald0 k182_41 ?_
        refine ev_cV1v k182_42 cs_249 (by first | assumption | rfl) (by omega) (Nat.le_of_ble_eq_true rfl) rfl rfl rfl ?_
        have fZ : ∀ k, k ≠ 28 → ¬ (74 ≤ k ∧ k ≤ 78) → k ≠ 25 → k ≠ 26 → (mm_up K 28 2 0) k = I k := fun k a b c e => by rw [mm_up_ne _ _ _ _ _ a]; exact hfr k b
        generalize hN0 : mm_up (mm_up (mm_up (mm_up (mm_up (mm_up K 28 2 0) 91 13 (nI 1)) 91 9 0) 91 10 0) 91 11 0) 91 12 0 = N0
        have fN : ∀ k, k ≠ 91 → N0 k = (mm_up K 28 2 0) k := fun k hk => by rw [← hN0, mm_up_ne _ _ _ _ _ hk, mm_up_ne _ _ _ _ _ hk, mm_up_ne _ _ _ _ _ hk, mm_up_ne _ _ _ _ _ hk, mm_up_ne _ _ _ _ _ hk]
        have fN1 : ∀ q, q < 9 ∨ 13 < q → N0 91 q = I 91 q := fun q hq => by rw [← hN0, mm_up_at, if_neg (by omega), mm_up_at, if_neg (by omega), mm_up_at, if_neg (by omega), mm_up_at, if_neg (by omega), mm_up_at, if_neg (by omega), fZ 91 (by decide) (by decide) (by decide) (by decide)]
        have n92 : N0 92 = I 92 := (fN 92 (by decide)).trans (fZ 92 (by decide) (by decide) (by decide) (by decide))
        have n5 : N0 92 5 = nI L := by rw [n92]; exact tl4
        have hb : mdB N0 (gT (I 29) L) 1 L := ⟨gT_ok tl1 (fun j hj => (tl5 j hj).2), by decide, by rw [← hN0, mm_up_at, if_neg (by omega), mm_up_at, if_neg (by omega), mm_up_at, if_neg (by omega), mm_up_at, if_neg (by omega), mm_up_at, if_pos ⟨rfl, rfl⟩], n5, fun p hp => by rw [n92]; exact ((tl5 p hp).1.symm.trans (if_pos hp).symm)⟩
        have h0 : mdE N0 N0 0 0 [] := ⟨fun _ _ _ _ => rfl, fun _ _ _ _ _ => rfl, by rw [← hN0, mm_up_at, if_neg (by omega), mm_up_at, if_neg (by omega), mm_up_at, if_neg (by omega), mm_up_at, if_pos ⟨rfl, rfl⟩]; rfl, by rw [← hN0, mm_up_at, if_neg (by omega), mm_up_at, if_neg (by omega), mm_up_at, if_pos ⟨rfl, rfl⟩]; rfl, by rw [← hN0, mm_up_at, if_neg (by omega), mm_up_at, if_pos ⟨rfl, rfl⟩]; rfl, by rw [← hN0, mm_up_at, if_pos ⟨rfl, rfl⟩], trivial⟩
        refine sm_anyR hb h0 (fun Q hv2 => ?_)
        replace hv2 : ((rT (I 29) L 1).2.2 = true ∧ mdE N0 Q 0 (rT (I 29) L 1).1 (rT (I 29) L 1).2.1) ∨ ((rT (I 29) L 1).2.2 = false ∧ mdF N0 Q (rT (I 29) L 1).1) := hv2
        have hrL : (rT (I 29) L 1).1 ≤ L := (rT_ok (f := I 29) tl1 (fun j hj => (tl5 j hj).2)).1.2.1
        have hm : Q 91 10 = nI (rT (I 29) L 1).1 ∧ (Q 91 12 = 0 → (rT (I 29) L 1).1 < L) ∧ (∀ k, k ≠ 91 → k ≠ 96 → k ≠ 97 → Q k = N0 k) ∧ (∀ q, q ≠ 9 → q ≠ 10 → q ≠ 11 → q ≠ 12 → Q 91 q = N0 91 q) := by
          rcases hv2 with ⟨z0, z⟩ | ⟨z0, z⟩
          · exact ⟨z.2.2.2.1, fun _ => Nat.lt_of_le_of_ne hrL (fun t => hno ⟨z0, t⟩), z.1, z.2.1⟩
          · exact ⟨z.2.2.1, fun t => by rw [z.2.2.2.1] at t; exact absurd t (by decide), z.1, z.2.1⟩
        refine ev_ald0 k182_45 ?_
        refine ev_ald0 k182_46 ?_
        refine ev_gf (j := 12) k182_47 (by first | assumption | rfl) rfl rfl rfl rfl ?_
        refine ev_if_ne k182_50 (fun g50 => ?_) (fun g50 => ?_)
        ·
          refine ev_iconst k182_66 ?_
          refine ev_goto k182_67 ?_
          refine ev_pz (j := 12) k182_71 (by first | assumption | rfl) rfl rfl (by first | exact Or.inl rfl | exact Or.inr rfl | assumption) rfl ?_
          refine ev_ald0 k182_74 ?_
          refine ev_getr k182_75 (by first | assumption | rfl) rfl rfl rfl ?_
          refine ev_iconst k182_78 ?_
          refine ev_iconst k182_79 ?_
          refine ev_ias (j := 5) k182_80 (by first | assumption | rfl) rfl (vp_dec rfl) ?_
          refine ev_ald0 k182_81 ?_
          refine ev_gfv (j := 12) k182_82 (by first | assumption | rfl) rfl rfl rfl rfl (show _ = (1 : Int32) from by rw [mm_up_ne _ _ _ _ _ (by decide), mm_up_at, if_pos ⟨rfl, rfl⟩]) ?_
          refine ev_if_eq k182_85 (fun g85 => absurd g85 (by decide)) (fun g85 => ?_)
          refine ev_bipush k182_88 ?_
          refine ev_ald0 k182_90 ?_
          refine ev_gfv (j := 10) k182_91 (by first | assumption | rfl) rfl rfl rfl rfl (show _ = nI (rT (I 29) L 1).1 from by rw [mm_up_ne _ _ _ _ _ (by decide), mm_up_at, if_neg (by omega)]; exact hm.1) ?_
          refine ev_isub k182_94 ?_
          refine ev_ri k182_95 rfl ?_
          generalize hF : mm_up (mm_up Q 91 12 1) 92 5 0 = F
          have f1 : ∀ k, k ≠ 91 → k ≠ 92 → k ≠ 96 → k ≠ 97 → k ≠ 28 → ¬ (74 ≤ k ∧ k ≤ 78) → F k = I k := fun k a b c d e f => by rw [← hF, mm_up_ne _ _ _ _ _ b, mm_up_ne _ _ _ _ _ a, hm.2.2.1 k a c d, fN k a, mm_up_ne _ _ _ _ _ e]; exact hfr k f
          have f91 : ∀ q, q < 9 ∨ 13 < q → F 91 q = I 91 q := fun q hq => by rw [← hF, mm_up_ne _ _ _ _ _ (by decide), mm_up_at, if_neg (by omega), hm.2.2.2 q (by omega) (by omega) (by omega) (by omega)]; exact fN1 q hq
          refine ⟨rfl, Inv_tx (nc := nc) (np := np) inv (HS_congr (fun k hk _ _ _ => ?_) (fun j hj => ?_) (HS_t0 hs)) (fun k hk => f1 k (by omega) (by omega) (by omega) (by omega) (by omega) (by omega)) (f91 3 (by omega)) (f91 15 (by omega)) ?_⟩
          · rw [← cells_up]
            show F (11 + k) = mm_up I 28 2 0 (11 + k)
            by_cases z : k = 17
            · rw [z, ← hF, mm_up_ne _ _ _ _ _ (by decide), mm_up_ne _ _ _ _ _ (by decide), hm.2.2.1 28 (by decide) (by decide) (by decide), fN 28 (by decide)]
              funext j
              show mm_up K 28 2 0 28 j = mm_up I 28 2 0 28 j
              rw [mm_up_at, mm_up_at, hfr 28 (by decide)]
            · rw [mm_up_ne _ _ _ _ _ (by omega)]; exact f1 _ (by omega) (by omega) (by omega) (by omega) (by omega) (by omega)
          · rw [← hF, mm_up_at, mm_up_ne _ _ _ _ _ (by decide), hm.2.2.1 92 (by decide) (by decide) (by decide), n92]
            by_cases z : j = 5
            · rw [if_pos ⟨rfl, z⟩]; simp [upd, z]
            · rw [if_neg (fun t => z t.2)]; simp [upd, z]
          · rw [← hF, mm_up_ne _ _ _ _ _ (by decide), mm_up_ne _ _ _ _ _ (by decide), hm.2.2.1 75 (by decide) (by decide) (by decide), fN 75 (by decide), mm_up_ne _ _ _ _ _ (by decide)]; exact h32
        ·
          refine ev_ald0 k182_53 ?_
          refine ev_gfv (j := 10) k182_54 (by first | assumption | rfl) rfl rfl rfl rfl hm.1 ?_
          refine ev_ald0 k182_57 ?_
          refine ev_getr k182_58 (by first | assumption | rfl) rfl rfl rfl ?_
          refine ev_iconst k182_61 ?_
          refine ev_ialv (j := 5) k182_62 (by first | assumption | rfl) (by omega) rfl (vp_dec rfl) ((congrFun (hm.2.2.1 92 (by decide) (by decide) (by decide)) 5).trans n5) ?_
          refine ev_jcmp_ge k182_63 (fun g63 => absurd (nI_lt (hm.2.1 g50) (by omega)) g63) (fun g63 => ?_)
          refine ev_iconst k182_66 ?_
          refine ev_goto k182_67 ?_
          refine ev_pz (j := 12) k182_71 (by first | assumption | rfl) rfl rfl (by first | exact Or.inl rfl | exact Or.inr rfl | assumption) rfl ?_
          refine ev_ald0 k182_74 ?_
          refine ev_getr k182_75 (by first | assumption | rfl) rfl rfl rfl ?_
          refine ev_iconst k182_78 ?_
          refine ev_iconst k182_79 ?_
          refine ev_ias (j := 5) k182_80 (by first | assumption | rfl) rfl (vp_dec rfl) ?_
          refine ev_ald0 k182_81 ?_
          refine ev_gfv (j := 12) k182_82 (by first | assumption | rfl) rfl rfl rfl rfl (show _ = (1 : Int32) from by rw [mm_up_ne _ _ _ _ _ (by decide), mm_up_at, if_pos ⟨rfl, rfl⟩]) ?_
          refine ev_if_eq k182_85 (fun g85 => absurd g85 (by decide)) (fun g85 => ?_)
          refine ev_bipush k182_88 ?_
          refine ev_ald0 k182_90 ?_
          refine ev_gfv (j := 10) k182_91 (by first | assumption | rfl) rfl rfl rfl rfl (show _ = nI (rT (I 29) L 1).1 from by rw [mm_up_ne _ _ _ _ _ (by decide), mm_up_at, if_neg (by omega)]; exact hm.1) ?_
          refine ev_isub k182_94 ?_
          refine ev_ri k182_95 rfl ?_
          generalize hF : mm_up (mm_up Q 91 12 1) 92 5 0 = F
          have f1 : ∀ k, k ≠ 91 → k ≠ 92 → k ≠ 96 → k ≠ 97 → k ≠ 28 → ¬ (74 ≤ k ∧ k ≤ 78) → F k = I k := fun k a b c d e f => by rw [← hF, mm_up_ne _ _ _ _ _ b, mm_up_ne _ _ _ _ _ a, hm.2.2.1 k a c d, fN k a, mm_up_ne _ _ _ _ _ e]; exact hfr k f
          have f91 : ∀ q, q < 9 ∨ 13 < q → F 91 q = I 91 q := fun q hq => by rw [← hF, mm_up_ne _ _ _ _ _ (by decide), mm_up_at, if_neg (by omega), hm.2.2.2 q (by omega) (by omega) (by omega) (by omega)]; exact fN1 q hq
          refine ⟨rfl, Inv_tx (nc := nc) (np := np) inv (HS_congr (fun k hk _ _ _ => ?_) (fun j hj => ?_) (HS_t0 hs)) (fun k hk => f1 k (by omega) (by omega) (by omega) (by omega) (by omega) (by omega)) (f91 3 (by omega)) (f91 15 (by omega)) ?_⟩
          · rw [← cells_up]
            show F (11 + k) = mm_up I 28 2 0 (11 + k)
            by_cases z : k = 17
            · rw [z, ← hF, mm_up_ne _ _ _ _ _ (by decide), mm_up_ne _ _ _ _ _ (by decide), hm.2.2.1 28 (by decide) (by decide) (by decide), fN 28 (by decide)]
              funext j
              show mm_up K 28 2 0 28 j = mm_up I 28 2 0 28 j
              rw [mm_up_at, mm_up_at, hfr 28 (by decide)]
            · rw [mm_up_ne _ _ _ _ _ (by omega)]; exact f1 _ (by omega) (by omega) (by omega) (by omega) (by omega) (by omega)
          · rw [← hF, mm_up_at, mm_up_ne _ _ _ _ _ (by decide), hm.2.2.1 92 (by decide) (by decide) (by decide), n92]
            by_cases z : j = 5
            · rw [if_pos ⟨rfl, z⟩]; simp [upd, z]
            · rw [if_neg (fun t => z t.2)]; simp [upd, z]
          · rw [← hF, mm_up_ne _ _ _ _ _ (by decide), mm_up_ne _ _ _ _ _ (by decide), hm.2.2.1 75 (by decide) (by decide) (by decide), fN 75 (by decide), mm_up_ne _ _ _ _ _ (by decide)]; exact h32
  ·
    refine ev_ald0 k86_7 ?_
    refine ev_ldc k86_8 ?_
    refine ev_cV2i k86_10 cs_174 (by first | assumption | rfl) (by omega) (Nat.le_of_ble_eq_true rfl) rfl rfl rfl ?_
    refine sp_error (k := 1) (by decide) (by decide) (by decide) ?_
    refine ev_ri k86_13 rfl ?_
    refine hQ _ _ ?_
    show mm_Ev mm_T0 X (d + 60) 182 0 [.ref 91, .int _, .retAddr 0, .retAddr 0] [] _ (mm_pi _)
    refine ev_ild1 k182_0 ?_
    refine ev_iconst k182_1 ?_
    refine ev_iconst k182_2 ?_
    refine ev_cS3i k182_3 cs_224 rfl rfl rfl ?_
    refine sp_in ?_
    refine ev_ifz_ne k182_6 (fun g6 => Bool.noConfusion (Eq.trans (Eq.symm h4) g6)) (fun g6 => ?_)
    refine ev_ald0 k182_9 ?_
    refine ev_ldc k182_10 ?_
    refine ev_cV2i k182_12 cs_238 (by first | assumption | rfl) (by omega) (Nat.le_of_ble_eq_true rfl) rfl rfl rfl ?_
    refine sm_error (k := 1) (by decide) (by decide) ?_
    refine ev_ri k182_15 rfl ?_
    first | exact ⟨rfl, Inv_e rfl rfl inv⟩ | exact ⟨rfl, inv⟩
