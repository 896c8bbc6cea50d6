/-! The reference: what chairs say, weights, votes -/
theorem and1 (x : Int32) : x &&& 1 = 0 ∨ x &&& 1 = 1 := by
  obtain ⟨j, hj, e⟩ := pk_andE x (m := 1) 1 rfl
  rcases (show j = 0 ∨ j = 1 by omega) with rfl | rfl
  · exact Or.inl e
  · exact Or.inr e
theorem iB_t {t i : Int32} (h : ¬ (t >>> (i &&& 31)) &&& 1 = 0) : iB t i = true := decide_eq_true ((and1 _).resolve_left h)
theorem iB_f {t i : Int32} (h : (t >>> (i &&& 31)) &&& 1 = 0) : iB t i = false := decide_eq_false (fun z => by rw [h] at z; exact absurd z (by decide))
theorem hNx_mod {S : mm_I} {nc c : Nat} (h : S 0 1 = nI nc) (h6 : nc ≤ 6) (hc : c < nc) : nI (hNx S 0 c) = nI ((c + 1) % nc) := by
  unfold hNx
  rw [h, nI_1]
  by_cases hl : c + 1 < nc
  · rw [if_pos (nI_lt hl (by omega)), Nat.mod_eq_of_lt hl]
  · rw [if_neg (nI_nlt (by omega) (by omega)), show c + 1 = nc by omega, Nat.mod_self]
def hOK0 (S : mm_I) (nc np : Nat) : Prop := hOK S 0 nc ∧ sR S nc np
/-- Model.saysOf -/
theorem sm_saysOf {X : Nat × (Nat → Int32)} {d : Nat} {I : mm_I} {S : mm_I} {nc np c : Nat} {b t : Int32} {P : Int32 → mm_I → Prop} (rm : RM S I nc np) (ok : hOK S 0 nc) (sr : sR S nc np) (hc : c < nc) (hQ : P (hSy S 0 c b t) I) : mm_Ev mm_T0 X (d + 4) 154 0 (mm_ent 154 [.ref 91, .int (nI c), .int b, .int t]) [] I (mm_pi P) := by
  show mm_Ev mm_T0 X (d + 4) 154 0 [.ref 91, .int (nI c), .int b, .int t, .retAddr 0] [] I (mm_pi P)
  have tm := tM
  have tr := tR
  have hnc := rm.1.2.1
  have hs1 := rm.1.2.2.2.2.1
  have hnx := hNx_mod hs1 hnc hc
  have hnl := hNx_lt (hb := 0) hs1 hnc hc
  obtain ⟨hk1, hk7⟩ := ok.2.2.1 c hc
  refine ev_ild3 k154_0 ?_
  refine ev_ild1 k154_1 ?_
  refine ev_ishr k154_2 ?_
  refine ev_iconst k154_3 ?_
  refine ev_iand k154_4 ?_
  refine ev_if_ne k154_5 (fun h5 => ?_) (fun h5 => ?_)
  ·
    have hin : iB t (nI c) = true := iB_t h5
    refine ev_ild1 k154_10 ?_
    refine ev_iconst k154_11 ?_
    refine ev_iadd k154_12 ?_
    refine ev_ald0 k154_13 ?_
    refine ev_getr k154_14 (by first | assumption | rfl) rfl rfl rfl ?_
    refine ev_iconst k154_17 ?_
    refine ev_ial (j := 2) k154_18 (by first | assumption | rfl) (by omega) rfl (vp_dec rfl) ?_
    rw [rm.1.1, nI_1]
    refine ev_irem k154_19 (nI_ne0 (by omega) (by omega)) ?_
    rw [pk_rem (by omega) (by omega) (by omega), ← hnx]
    refine ev_ist4 k154_20 rfl ?_
    refine ev_ald0 k154_22 ?_
    refine ev_ild1 k154_23 ?_
    refine ev_iconst k154_24 ?_
    refine ev_cV3i k154_25 cs_226 (by first | assumption | rfl) (by omega) (Nat.le_of_ble_eq_true rfl) rfl rfl rfl ?_
    refine sm_of (w := 0) (show c < 6 by have := rm.1.2.1; omega) (by omega) ?_
    rw [show I 92 (7 + 4 * c + 0) = S 1 c from (rm.2.1 c hc).1]
    refine ev_tb (l := [(1, 40), (2, 63), (3, 85), (4, 61), (5, 63), (6, 92)]) k154_28 rfl rfl ?_
    refine sw_cons (key := 1) (t := 68) rfl rfl (fun h28 => ?_) (fun h28_0 => ?_)
    ·
      refine ev_ald0 k154_68 ?_
      refine ev_ild1 k154_69 ?_
      refine ev_iconst k154_70 ?_
      refine ev_cV3i k154_71 cs_226 (by first | assumption | rfl) (by omega) (Nat.le_of_ble_eq_true rfl) rfl rfl rfl ?_
      refine sm_of (w := 1) (show c < 6 by have := rm.1.2.1; omega) (by omega) ?_
      rw [show I 92 (7 + 4 * c + 1) = S 2 c from (rm.2.1 c hc).2.1]
      refine ev_ild2 k154_74 ?_
      refine ev_icmp_ne k154_75 (fun h75 => ?_) (fun h75 => ?_)
      ·
        refine ev_ald0 k154_82 ?_
        refine ev_ild1 k154_83 ?_
        refine ev_ild2 k154_84 ?_
        refine ev_cV3i k154_85 cs_229 (by first | assumption | rfl) (by omega) (Nat.le_of_ble_eq_true rfl) rfl rfl rfl ?_
        refine sm_plainSays rm (by assumption) ?_
        refine ev_ri k154_88 rfl ?_
        have ek : hK S 0 c = 1 := by unfold hK; rw [show S (0 + 1) c = 1 from h28]; rfl
        have e9 : hSy S 0 c b t = if b = S 2 c then 0 else hCh S 0 c b := by unfold hSy; rw [hin, ek]; rfl
        rw [e9] at hQ
        first | (rw [if_pos (Eq.symm h75)] at hQ; exact hQ) | (rw [if_neg (fun z : b = S 2 c => h75 (Eq.symm z))] at hQ; exact hQ)
      ·
        refine ev_iconst k154_78 ?_
        refine ev_goto k154_79 ?_
        refine ev_ri k154_88 rfl ?_
        have ek : hK S 0 c = 1 := by unfold hK; rw [show S (0 + 1) c = 1 from h28]; rfl
        have e9 : hSy S 0 c b t = if b = S 2 c then 0 else hCh S 0 c b := by unfold hSy; rw [hin, ek]; rfl
        rw [e9] at hQ
        first | (rw [if_pos (Eq.symm h75)] at hQ; exact hQ) | (rw [if_neg (fun z : b = S 2 c => h75 (Eq.symm z))] at hQ; exact hQ)
    refine sw_cons (key := 2) (t := 91) rfl rfl (fun h28 => ?_) (fun h28_1 => ?_)
    ·
      refine ev_ald0 k154_91 ?_
      refine ev_ild3 k154_92 ?_
      refine ev_ild4 k154_93 ?_
      refine ev_ishr k154_95 ?_
      refine ev_iconst k154_96 ?_
      refine ev_iand k154_97 ?_
      refine ev_iconst k154_98 ?_
      refine ev_icmp_ne k154_99 (fun h99 => ?_) (fun h99 => ?_)
      ·
        refine ev_ild1 k154_107 ?_
        refine ev_ild2 k154_108 ?_
        refine ev_cV3i k154_109 cs_229 (by first | assumption | rfl) (by omega) (Nat.le_of_ble_eq_true rfl) rfl rfl rfl ?_
        refine sm_plainSays rm (by assumption) ?_
        refine ev_ri k154_112 rfl ?_
        have ek : hK S 0 c = 2 ∨ hK S 0 c = 5 := by unfold hK; rw [show S (0 + 1) c = _ from h28]; decide
        have eg : hSy S 0 c b t = hGl S 0 c b t := by
          unfold hSy
          rcases ek with ek | ek <;> (rw [hin, ek]; rfl)
        rw [eg] at hQ
        unfold hGl at hQ
        first | (rw [if_pos (show iB t (nI (hNx S 0 c)) = true from decide_eq_true h99)] at hQ; exact hQ) | (rw [if_neg (show ¬ iB t (nI (hNx S 0 c)) = true from fun z => h99 (of_decide_eq_true z))] at hQ; exact hQ)
      ·
        refine ev_ild4 k154_102 ?_
        refine ev_goto k154_104 ?_
        refine ev_ild2 k154_108 ?_
        refine ev_cV3i k154_109 cs_229 (by first | assumption | rfl) (by omega) (Nat.le_of_ble_eq_true rfl) rfl rfl rfl ?_
        refine sm_plainSays rm (by assumption) ?_
        refine ev_ri k154_112 rfl ?_
        have ek : hK S 0 c = 2 ∨ hK S 0 c = 5 := by unfold hK; rw [show S (0 + 1) c = _ from h28]; decide
        have eg : hSy S 0 c b t = hGl S 0 c b t := by
          unfold hSy
          rcases ek with ek | ek <;> (rw [hin, ek]; rfl)
        rw [eg] at hQ
        unfold hGl at hQ
        first | (rw [if_pos (show iB t (nI (hNx S 0 c)) = true from decide_eq_true h99)] at hQ; exact hQ) | (rw [if_neg (show ¬ iB t (nI (hNx S 0 c)) = true from fun z => h99 (of_decide_eq_true z))] at hQ; exact hQ)
    refine sw_cons (key := 3) (t := 113) rfl rfl (fun h28 => ?_) (fun h28_2 => ?_)
    ·
      refine ev_ald0 k154_113 ?_
      refine ev_ild1 k154_114 ?_
      refine ev_ild2 k154_115 ?_
      refine ev_cV3i k154_116 cs_230 (by first | assumption | rfl) (by omega) (Nat.le_of_ble_eq_true rfl) rfl rfl rfl ?_
      refine sm_repairedSays rm sr hc ?_
      refine ev_ri k154_119 rfl ?_
      have ek : hK S 0 c = 3 := by unfold hK; rw [show S (0 + 1) c = 3 from h28]; rfl
      rw [show hSy S 0 c b t = hRp S 0 c b from by unfold hSy; rw [hin, ek]; rfl] at hQ
      exact hQ
    refine sw_cons (key := 4) (t := 89) rfl rfl (fun h28 => ?_) (fun h28_3 => ?_)
    ·
      refine ev_iconst k154_89 ?_
      refine ev_ri k154_90 rfl ?_
      have ek : hK S 0 c = 4 := by unfold hK; rw [show S (0 + 1) c = 4 from h28]; rfl
      rw [show hSy S 0 c b t = 0 from by unfold hSy; rw [hin, ek]; rfl] at hQ
      exact hQ
    refine sw_cons (key := 5) (t := 91) rfl rfl (fun h28 => ?_) (fun h28_4 => ?_)
    ·
      refine ev_ald0 k154_91 ?_
      refine ev_ild3 k154_92 ?_
      refine ev_ild4 k154_93 ?_
      refine ev_ishr k154_95 ?_
      refine ev_iconst k154_96 ?_
      refine ev_iand k154_97 ?_
      refine ev_iconst k154_98 ?_
      refine ev_icmp_ne k154_99 (fun h99 => ?_) (fun h99 => ?_)
      ·
        refine ev_ild1 k154_107 ?_
        refine ev_ild2 k154_108 ?_
        refine ev_cV3i k154_109 cs_229 (by first | assumption | rfl) (by omega) (Nat.le_of_ble_eq_true rfl) rfl rfl rfl ?_
        refine sm_plainSays rm (by assumption) ?_
        refine ev_ri k154_112 rfl ?_
        have ek : hK S 0 c = 2 ∨ hK S 0 c = 5 := by unfold hK; rw [show S (0 + 1) c = _ from h28]; decide
        have eg : hSy S 0 c b t = hGl S 0 c b t := by
          unfold hSy
          rcases ek with ek | ek <;> (rw [hin, ek]; rfl)
        rw [eg] at hQ
        unfold hGl at hQ
        first | (rw [if_pos (show iB t (nI (hNx S 0 c)) = true from decide_eq_true h99)] at hQ; exact hQ) | (rw [if_neg (show ¬ iB t (nI (hNx S 0 c)) = true from fun z => h99 (of_decide_eq_true z))] at hQ; exact hQ)
      ·
        refine ev_ild4 k154_102 ?_
        refine ev_goto k154_104 ?_
        refine ev_ild2 k154_108 ?_
        refine ev_cV3i k154_109 cs_229 (by first | assumption | rfl) (by omega) (Nat.le_of_ble_eq_true rfl) rfl rfl rfl ?_
        refine sm_plainSays rm (by assumption) ?_
        refine ev_ri k154_112 rfl ?_
        have ek : hK S 0 c = 2 ∨ hK S 0 c = 5 := by unfold hK; rw [show S (0 + 1) c = _ from h28]; decide
        have eg : hSy S 0 c b t = hGl S 0 c b t := by
          unfold hSy
          rcases ek with ek | ek <;> (rw [hin, ek]; rfl)
        rw [eg] at hQ
        unfold hGl at hQ
        first | (rw [if_pos (show iB t (nI (hNx S 0 c)) = true from decide_eq_true h99)] at hQ; exact hQ) | (rw [if_neg (show ¬ iB t (nI (hNx S 0 c)) = true from fun z => h99 (of_decide_eq_true z))] at hQ; exact hQ)
    refine sw_cons (key := 6) (t := 120) rfl rfl (fun h28 => ?_) (fun h28_5 => ?_)
    ·
      refine ev_ald0 k154_120 ?_
      refine ev_ild1 k154_121 ?_
      refine ev_ild2 k154_122 ?_
      refine ev_cV3i k154_123 cs_230 (by first | assumption | rfl) (by omega) (Nat.le_of_ble_eq_true rfl) rfl rfl rfl ?_
      refine sm_repairedSays rm sr hc ?_
      refine ev_ineg k154_126 ?_
      refine ev_ri k154_127 rfl ?_
      have ek : hK S 0 c = 6 := by unfold hK; rw [show S (0 + 1) c = 6 from h28]; rfl
      rw [show hSy S 0 c b t = -(hRp S 0 c b) from by unfold hSy; rw [hin, ek]; rfl] at hQ
      exact hQ
    refine sw_nil (t := 128) rfl ?_
    refine ev_ald0 k154_128 ?_
    refine ev_ild1 k154_129 ?_
    refine ev_ild2 k154_130 ?_
    refine ev_cV3i k154_131 cs_229 (by first | assumption | rfl) (by omega) (Nat.le_of_ble_eq_true rfl) rfl rfl rfl ?_
    refine sm_plainSays rm (by assumption) ?_
    refine ev_ri k154_134 rfl ?_
    have ek : hK S 0 c = 0 := by
      have e1 : ∀ q : Nat, q < 7 → ¬ S 1 c = nI q → ¬ hK S 0 c = q := fun q _ z w => z (by rw [show S 1 c = nI (hK S 0 c) from hk1, w])
      have := e1 1 (by decide) h28_0
      have := e1 2 (by decide) h28_1
      have := e1 3 (by decide) h28_2
      have := e1 4 (by decide) h28_3
      have := e1 5 (by decide) h28_4
      have := e1 6 (by decide) h28_5
      omega
    rw [show hSy S 0 c b t = hCh S 0 c b from by unfold hSy; rw [hin, ek]; rfl] at hQ
    exact hQ
  ·
    refine ev_iconst k154_8 ?_
    refine ev_ri k154_9 rfl ?_
    rw [show hSy S 0 c b t = 0 from by unfold hSy; rw [iB_f h5]; rfl] at hQ
    exact hQ
/-- Model.weightOf -/
theorem sm_weightOf {X : Nat × (Nat → Int32)} {d : Nat} {I : mm_I} {S : mm_I} {nc np c : Nat} {P : Int32 → mm_I → Prop} (rm : RM S I nc np) (ok : hOK S 0 nc) (sr : sR S nc np) (tt : TR S I) (hc : c < nc) (hQ : ∀ J, sc I J → P (hWt S 0 c) J) : mm_Ev mm_T0 X (d + 3) 155 0 (mm_ent 155 [.ref 91, .int (nI c)]) [] I (mm_pi P) := by
  show mm_Ev mm_T0 X (d + 3) 155 0 [.ref 91, .int (nI c), .retAddr 0] [] I (mm_pi P)
  have tm := tM
  have tr := tR
  obtain ⟨k, m, v, u, -, -, hv, hu, -, -, ev, eu⟩ := sr.1 c hc
  obtain ⟨hk1, hk7⟩ := ok.2.2.1 c hc
  refine ev_ald0 k155_0 ?_
  refine ev_iconst k155_1 ?_
  refine ev_ald0 k155_2 ?_
  refine ev_ild1 k155_3 ?_
  refine ev_iconst k155_4 ?_
  refine ev_cV3i k155_5 cs_226 (by first | assumption | rfl) (by omega) (Nat.le_of_ble_eq_true rfl) rfl rfl rfl ?_
  refine sm_of (w := 2) (show c < 6 by have := rm.1.2.1; omega) (by omega) ?_
  rw [show I 92 (7 + 4 * c + 2) = S 3 c from (rm.2.1 c hc).2.2.1]
  refine ev_cS1i k155_8 cs_228 rfl rfl rfl ?_
  refine sm_bits ev hv ?_
  refine ev_ald0 k155_11 ?_
  refine ev_ild1 k155_12 ?_
  refine ev_iconst k155_13 ?_
  refine ev_cV3i k155_14 cs_226 (by first | assumption | rfl) (by omega) (Nat.le_of_ble_eq_true rfl) rfl rfl rfl ?_
  refine sm_of (w := 3) (show c < 6 by have := rm.1.2.1; omega) (by omega) ?_
  rw [show I 92 (7 + 4 * c + 3) = S 4 c from (rm.2.1 c hc).2.2.2]
  refine ev_cS1i k155_17 cs_228 rfl rfl rfl ?_
  refine sm_bits eu hu ?_
  refine ev_ald0 k155_20 ?_
  refine ev_getr k155_21 (by first | assumption | rfl) rfl rfl rfl ?_
  refine ev_iconst k155_24 ?_
  refine ev_ial (j := 0) k155_25 (by first | assumption | rfl) (by omega) rfl (vp_dec rfl) ?_
  refine ev_cV5i k155_26 cs_231 (by first | assumption | rfl) (by omega) (Nat.le_of_ble_eq_true rfl) rfl rfl rfl ?_
  rw [rm.2.2.2.1]
  refine sm_gives0 ok tt (fun J hJ => ?_)
  replace rm := RM_congr (hJ 92 (by decide) (by decide)) rm
  refine ev_ist2 k155_29 rfl ?_
  refine ev_ald0 k155_30 ?_
  refine ev_ild1 k155_31 ?_
  refine ev_iconst k155_32 ?_
  refine ev_cV3i k155_33 cs_226 (by first | assumption | rfl) (by omega) (Nat.le_of_ble_eq_true rfl) rfl rfl rfl ?_
  refine sm_of (w := 0) (show c < 6 by have := rm.1.2.1; omega) (by omega) ?_
  rw [show J 92 (7 + 4 * c + 0) = S 1 c from (rm.2.1 c hc).1]
  refine ev_lk (l := [(5, 28), (6, 39)]) k155_36 rfl ?_
  refine sw_cons (key := 5) (t := 64) rfl rfl (fun h36 => ?_) (fun h36_0 => ?_)
  ·
    refine ev_ild2 k155_64 ?_
    refine ev_ald0 k155_65 ?_
    refine ev_ild1 k155_66 ?_
    refine ev_iconst k155_67 ?_
    refine ev_cV3i k155_68 cs_226 (by first | assumption | rfl) (by omega) (Nat.le_of_ble_eq_true rfl) rfl rfl rfl ?_
    refine sm_of (w := 1) (show c < 6 by have := rm.1.2.1; omega) (by omega) ?_
    rw [show J 92 (7 + 4 * c + 1) = S 2 c from (rm.2.1 c hc).2.1]
    refine ev_iconst k155_71 ?_
    refine ev_idiv k155_72 (by decide) ?_
    refine ev_iadd k155_73 ?_
    refine ev_ri k155_74 rfl ?_
    have ek : hK S 0 c = 5 := by unfold hK; rw [show S (0 + 1) c = 5 from h36]; rfl
    have hw := hQ J hJ
    rw [show hWt S 0 c = hGv S 0 (bc (S 3 c)) (bc (S 4 c)) (S 0 16) + S 2 c / 3 from by unfold hWt; rw [ek]; rfl] at hw
    exact hw
  refine sw_cons (key := 6) (t := 75) rfl rfl (fun h36 => ?_) (fun h36_1 => ?_)
  ·
    refine ev_iconst k155_75 ?_
    refine ev_ild2 k155_76 ?_
    refine ev_imul k155_77 ?_
    refine ev_ri k155_78 rfl ?_
    have ek : hK S 0 c = 6 := by unfold hK; rw [show S (0 + 1) c = 6 from h36]; rfl
    have hw := hQ J hJ
    rw [show hWt S 0 c = hGv S 0 (bc (S 3 c)) (bc (S 4 c)) (S 0 16) * 2 from by unfold hWt; rw [ek]; rfl, Int32.mul_comm] at hw
    exact hw
  refine sw_nil (t := 79) rfl ?_
  refine ev_ild2 k155_79 ?_
  refine ev_ri k155_80 rfl ?_
  have e5 : ¬ hK S 0 c = 5 := fun z => h36_0 (by rw [show S 1 c = nI (hK S 0 c) from hk1, z]; rfl)
  have e6 : ¬ hK S 0 c = 6 := fun z => h36_1 (by rw [show S 1 c = nI (hK S 0 c) from hk1, z]; rfl)
  have hw := hQ J hJ
  rw [show hWt S 0 c = hGv S 0 (bc (S 3 c)) (bc (S 4 c)) (S 0 16) from by unfold hWt hHf; rw [if_neg e5, if_neg e6]] at hw
  exact hw
def wgS (S : mm_I) (b t say : Int32) (c : Nat) (s : Int32) : Int32 := s + (if iB t (nI c) = true ∧ hSy S 0 c b t = say then hWt S 0 c else 0)
theorem sc_rf (I : mm_I) : sc I I := fun _ _ _ => rfl
theorem sc_tr {I J K : mm_I} (h : sc I J) (h2 : sc J K) : sc I K := fun k a b => (h2 k a b).trans (h k a b)
theorem lm_weighing {X : Nat × (Nat → Int32)} {d : Nat} {S I0 : mm_I} {nc np : Nat} {b t say : Int32} {P : Int32 → mm_I → Prop} (rm : RM S I0 nc np) (ok : hOK S 0 nc) (sr : sR S nc np) (tt : TR S I0) (hQ : ∀ J, sc I0 J → P (fo (wgS S b t say) nc 0 0) J)  : ∀ (n i : Nat) (J : mm_I) (w : Int32), i + n = nc → (sc I0 J ∧ fo (wgS S b t say) n i w = fo (wgS S b t say) nc 0 0) → mm_Ev mm_T0 X (d + 5) 156 6 [.ref 91, .int b, .int t, .int say, .int w, .int (nI i)] [] J (mm_pi P) := by
  have tm := tM
  have tr := tR
  intro n
  induction n with
  | zero =>
    intro i J w hi hq
    have hnp := rm.1.2.2.2.1
    have hnc := rm.1.2.1
    have e : i = nc := by omega
    subst e
    refine ev_ild5 k156_6 ?_
    refine ev_ald0 k156_8 ?_
    refine ev_getr k156_9 (by first | assumption | rfl) rfl rfl rfl ?_
    refine ev_iconst k156_12 ?_
    refine ev_ial (j := 2) k156_13 (by first | assumption | rfl) (by omega) rfl (vp_dec rfl) ?_
    rw [show J 92 = I0 92 from hq.1 92 (by decide) (by decide), rm.1.1]
    refine ev_jcmp_ge k156_14 (fun h14 => ?_) (fun h14 => absurd h14 (nI_nlt (Nat.le_refl _) (by omega)))
    refine ev_ild4 k156_60 ?_
    refine ev_ri k156_62 rfl ?_
    rw [show w = fo (wgS S b t say) _ 0 0 from hq.2]
    exact hQ J hq.1
  | succ n ih =>
    intro i J w hi hq
    have hnp := rm.1.2.2.2.1
    have hnc := rm.1.2.1
    have hlt : i < nc := by omega
    refine ev_ild5 k156_6 ?_
    refine ev_ald0 k156_8 ?_
    refine ev_getr k156_9 (by first | assumption | rfl) rfl rfl rfl ?_
    refine ev_iconst k156_12 ?_
    refine ev_ial (j := 2) k156_13 (by first | assumption | rfl) (by omega) rfl (vp_dec rfl) ?_
    rw [show J 92 = I0 92 from hq.1 92 (by decide) (by decide), rm.1.1]
    refine ev_jcmp_ge k156_14 (fun h14 => absurd (nI_lt hlt (by omega)) h14) (fun h14 => ?_)
    refine ev_ild4 k156_17 ?_
    refine ev_ild2 k156_19 ?_
    refine ev_ild5 k156_20 ?_
    refine ev_ishr k156_22 ?_
    refine ev_iconst k156_23 ?_
    refine ev_iand k156_24 ?_
    refine ev_iconst k156_25 ?_
    refine ev_icmp_ne k156_26 (fun h26 => ?_) (fun h26 => ?_)
    ·
      refine ev_iconst k156_50 ?_
      refine ev_iadd k156_51 ?_
      refine ev_ist4 k156_52 rfl ?_
      refine ev_inc5 k156_54 rfl ?_
      refine ev_goto k156_57 ?_
      rw [nI_1]
      first | refine ih (i + 1) K _ (by omega) ⟨sc_tr hq.1 hK, ?_⟩ | refine ih (i + 1) J _ (by omega) ⟨hq.1, ?_⟩
      have e2 : fo (wgS S b t say) (n + 1) i w = fo (wgS S b t say) n (i + 1) (wgS S b t say i w) := rfl
      rw [← hq.2, e2]
      congr 1
      unfold wgS
      first | rw [if_neg (fun z : iB t (nI i) = true ∧ hSy S 0 i b t = say => h26 (of_decide_eq_true z.1))] | rw [if_neg (fun z : iB t (nI i) = true ∧ hSy S 0 i b t = say => h38 z.2)] | rw [if_pos (show iB t (nI i) = true ∧ hSy S 0 i b t = say from ⟨decide_eq_true h26, h38⟩)]
    ·
      refine ev_ald0 k156_29 ?_
      refine ev_ild5 k156_30 ?_
      refine ev_ild1 k156_32 ?_
      refine ev_ild2 k156_33 ?_
      refine ev_cV4i k156_34 cs_232 (by first | assumption | rfl) (by omega) (Nat.le_of_ble_eq_true rfl) rfl rfl rfl ?_
      refine sm_saysOf (RM_congr (hq.1 92 (by decide) (by decide)) rm) ok sr hlt ?_
      refine ev_ild3 k156_37 ?_
      refine ev_icmp_ne k156_38 (fun h38 => ?_) (fun h38 => ?_)
      ·
        refine ev_iconst k156_50 ?_
        refine ev_iadd k156_51 ?_
        refine ev_ist4 k156_52 rfl ?_
        refine ev_inc5 k156_54 rfl ?_
        refine ev_goto k156_57 ?_
        rw [nI_1]
        first | refine ih (i + 1) K _ (by omega) ⟨sc_tr hq.1 hK, ?_⟩ | refine ih (i + 1) J _ (by omega) ⟨hq.1, ?_⟩
        have e2 : fo (wgS S b t say) (n + 1) i w = fo (wgS S b t say) n (i + 1) (wgS S b t say i w) := rfl
        rw [← hq.2, e2]
        congr 1
        unfold wgS
        first | rw [if_neg (fun z : iB t (nI i) = true ∧ hSy S 0 i b t = say => h26 (of_decide_eq_true z.1))] | rw [if_neg (fun z : iB t (nI i) = true ∧ hSy S 0 i b t = say => h38 z.2)] | rw [if_pos (show iB t (nI i) = true ∧ hSy S 0 i b t = say from ⟨decide_eq_true h26, h38⟩)]
      ·
        refine ev_ald0 k156_41 ?_
        refine ev_ild5 k156_42 ?_
        refine ev_cV2i k156_44 cs_233 (by first | assumption | rfl) (by omega) (Nat.le_of_ble_eq_true rfl) rfl rfl rfl ?_
        refine sm_weightOf (RM_congr (hq.1 92 (by decide) (by decide)) rm) ok sr (TR_congr (hq.1 92 (by decide) (by decide)) tt) hlt (fun K hK => ?_)
        refine ev_goto k156_47 ?_
        refine ev_iadd k156_51 ?_
        refine ev_ist4 k156_52 rfl ?_
        refine ev_inc5 k156_54 rfl ?_
        refine ev_goto k156_57 ?_
        rw [nI_1]
        first | refine ih (i + 1) K _ (by omega) ⟨sc_tr hq.1 hK, ?_⟩ | refine ih (i + 1) J _ (by omega) ⟨hq.1, ?_⟩
        have e2 : fo (wgS S b t say) (n + 1) i w = fo (wgS S b t say) n (i + 1) (wgS S b t say i w) := rfl
        rw [← hq.2, e2]
        congr 1
        unfold wgS
        first | rw [if_neg (fun z : iB t (nI i) = true ∧ hSy S 0 i b t = say => h26 (of_decide_eq_true z.1))] | rw [if_neg (fun z : iB t (nI i) = true ∧ hSy S 0 i b t = say => h38 z.2)] | rw [if_pos (show iB t (nI i) = true ∧ hSy S 0 i b t = say from ⟨decide_eq_true h26, h38⟩)]
/-- Model.weighing -/
theorem sm_weighing {X : Nat × (Nat → Int32)} {d : Nat} {I : mm_I} {S : mm_I} {nc np : Nat} {b t say : Int32} {P : Int32 → mm_I → Prop} (rm : RM S I nc np) (ok : hOK S 0 nc) (sr : sR S nc np) (tt : TR S I) (hQ : ∀ J, sc I J → P (fo (wgS S b t say) nc 0 0) J) : mm_Ev mm_T0 X (d + 5) 156 0 (mm_ent 156 [.ref 91, .int b, .int t, .int say]) [] I (mm_pi P) := by
  show mm_Ev mm_T0 X (d + 5) 156 0 [.ref 91, .int b, .int t, .int say, .retAddr 0, .retAddr 0] [] I (mm_pi P)
  refine ev_iconst k156_0 ?_
  refine ev_ist4 k156_1 rfl ?_
  refine ev_iconst k156_3 ?_
  refine ev_ist5 k156_4 rfl ?_
  exact lm_weighing rm ok sr tt hQ nc 0 I 0 (by omega) ⟨sc_rf I, rfl⟩
theorem hCh_01 (I : mm_I) (hb c : Nat) (b : Int32) : hCh I hb c b = 1 ∨ hCh I hb c b = -1 := by
  unfold hCh
  split
  · exact Or.inl rfl
  · exact Or.inr rfl
theorem hRp_01 (I : mm_I) (hb c : Nat) (b : Int32) : hRp I hb c b = 1 ∨ hRp I hb c b = -1 := by
  unfold hRp
  split
  · exact hCh_01 I hb c b
  · exact Or.inl rfl
theorem hOp_01 (I : mm_I) (hb k c : Nat) (b t : Int32) : hOp I hb k c b t = 1 ∨ hOp I hb k c b t = -1 ∨ hOp I hb k c b t = 0 := by
  have h0 := hCh_01 I hb c b
  have h1 : hGl I hb c b t = 1 ∨ hGl I hb c b t = -1 := hCh_01 I hb _ b
  have h2 := hRp_01 I hb c b
  unfold hOp
  split
  · exact h0.elim Or.inl (fun z => Or.inr (Or.inl z))
  · split
    · exact Or.inr (Or.inr rfl)
    · exact h0.elim Or.inl (fun z => Or.inr (Or.inl z))
  · exact h1.elim Or.inl (fun z => Or.inr (Or.inl z))
  · exact h2.elim Or.inl (fun z => Or.inr (Or.inl z))
  · exact Or.inr (Or.inr rfl)
  · exact h1.elim Or.inl (fun z => Or.inr (Or.inl z))
  · rcases h2 with z | z
    · exact Or.inr (Or.inl (by rw [z]))
    · exact Or.inl (by rw [z]; decide)
theorem i32_ring (a b w : Int32) : (a + w) - b = (a - b) + 1 * w ∧ a - (b + w) = (a - b) + -1 * w ∧ a - b = (a - b) + 0 * w := by
  refine ⟨?_, ?_, ?_⟩ <;> (apply Int32.toBitVec_inj.mp; simp; try grind)
/-- FOR less AGAINST, both ways -/
theorem wg_mv (S : mm_I) (b t : Int32) : ∀ (n i : Nat) (x y : Int32), fo (wgS S b t 1) n i x - fo (wgS S b t (-1)) n i y = fo (fun c s => if iB t (nI c) then s + hOp S 0 (hK S 0 c) c b t * hWt S 0 c else s) n i (x - y) := by
  intro n
  induction n with
  | zero => intro i x y; rfl
  | succ n ih =>
    intro i x y
    show fo (wgS S b t 1) n (i + 1) (wgS S b t 1 i x) - fo (wgS S b t (-1)) n (i + 1) (wgS S b t (-1) i y) = _
    rw [ih]
    show _ = fo _ n (i + 1) _
    congr 1
    obtain ⟨r1, r2, r3⟩ := i32_ring x y (hWt S 0 i)
    have z0 : ∀ q : Int32, q + 0 = q := fun q => by apply Int32.toBitVec_inj.mp; simp
    unfold wgS
    dsimp only
    by_cases h : iB t (nI i) = true
    · have hs : hSy S 0 i b t = hOp S 0 (hK S 0 i) i b t := by unfold hSy; rw [if_pos h]
      rw [hs, if_pos h]
      rcases hOp_01 S 0 (hK S 0 i) i b t with e | e | e
      · rw [e, if_pos ⟨h, rfl⟩, if_neg (fun z => absurd z.2 (by decide)), z0]
        exact r1
      · rw [e, if_neg (fun z => absurd z.2 (by decide)), if_pos ⟨h, rfl⟩, z0]
        exact r2
      · rw [e, if_neg (fun z => absurd z.2 (by decide)), if_neg (fun z => absurd z.2 (by decide)), z0, z0]
        exact r3
    · rw [if_neg (fun z => h z.1), if_neg (fun z => h z.1), if_neg h, z0, z0]
/-- Model.marginOf -/
theorem sm_marginOf {X : Nat × (Nat → Int32)} {d : Nat} {I : mm_I} {S : mm_I} {nc np : Nat} {b t : Int32} {P : Int32 → mm_I → Prop} (rm : RM S I nc np) (ok : hOK S 0 nc) (sr : sR S nc np) (tt : TR S I) (hQ : ∀ J, sc I J → P (hMv S 0 nc (hWt S 0) b t) J) : mm_Ev mm_T0 X (d + 6) 157 0 (mm_ent 157 [.ref 91, .int b, .int t]) [] I (mm_pi P) := by
  show mm_Ev mm_T0 X (d + 6) 157 0 [.ref 91, .int b, .int t] [] I (mm_pi P)
  have tm := tM
  have tr := tR
  refine ev_ald0 k157_0 ?_
  refine ev_ild1 k157_1 ?_
  refine ev_ild2 k157_2 ?_
  refine ev_iconst k157_3 ?_
  refine ev_cV4i k157_4 cs_234 (by first | assumption | rfl) (by omega) (Nat.le_of_ble_eq_true rfl) rfl rfl rfl ?_
  refine sm_weighing rm ok sr tt (fun J hJ => ?_)
  refine ev_ald0 k157_7 ?_
  refine ev_ild1 k157_8 ?_
  refine ev_ild2 k157_9 ?_
  refine ev_iconst k157_10 ?_
  refine ev_cV4i k157_11 cs_234 (by first | assumption | rfl) (by omega) (Nat.le_of_ble_eq_true rfl) rfl rfl rfl ?_
  refine sm_weighing (RM_congr (hJ 92 (by decide) (by decide)) rm) ok sr (TR_congr (hJ 92 (by decide) (by decide)) tt) (fun K hK => ?_)
  refine ev_isub k157_14 ?_
  refine ev_ri k157_15 rfl ?_
  rw [wg_mv]
  exact hQ K (sc_tr hJ hK)
/-- Model.doesPass -/
theorem sm_doesPass {X : Nat × (Nat → Int32)} {d : Nat} {I : mm_I} {S : mm_I} {nc np : Nat} {b : Int32} {P : Int32 → mm_I → Prop} (rm : RM S I nc np) (ok : hOK S 0 nc) (sr : sR S nc np) (tt : TR S I) (hQ : ∀ J, sc I J → P (bI (decide (0 < hMv S 0 nc (hWt S 0) b (hTk S 0 np)))) J) : mm_Ev mm_T0 X (d + 7) 158 0 (mm_ent 158 [.ref 91, .int b]) [] I (mm_pi P) := by
  show mm_Ev mm_T0 X (d + 7) 158 0 [.ref 91, .int b] [] I (mm_pi P)
  have tm := tM
  have tr := tR
  refine ev_ald0 k158_0 ?_
  refine ev_ild1 k158_1 ?_
  refine ev_ald0 k158_2 ?_
  refine ev_cV1i k158_3 cs_235 (by first | assumption | rfl) (by omega) (Nat.le_of_ble_eq_true rfl) rfl rfl rfl ?_
  refine sm_taken rm sr ?_
  refine ev_cV3i k158_6 cs_236 (by first | assumption | rfl) (by omega) (Nat.le_of_ble_eq_true rfl) rfl rfl rfl ?_
  refine sm_marginOf rm ok sr tt (fun J hJ => ?_)
  refine ev_jf_le k158_9 (fun h9 => ?_) (fun h9 => ?_)
  ·
    refine ev_iconst k158_16 ?_
    refine ev_rz k158_17 rfl (by first | exact bI01 _ | exact Or.inl rfl | exact Or.inr rfl | assumption) ?_
    have hw := hQ J hJ
    first | (rw [decide_eq_true h9] at hw; exact hw) | (rw [decide_eq_false h9] at hw; exact hw)
  ·
    refine ev_iconst k158_12 ?_
    refine ev_goto k158_13 ?_
    refine ev_rz k158_17 rfl (by first | exact bI01 _ | exact Or.inl rfl | exact Or.inr rfl | assumption) ?_
    have hw := hQ J hJ
    first | (rw [decide_eq_true h9] at hw; exact hw) | (rw [decide_eq_false h9] at hw; exact hw)
