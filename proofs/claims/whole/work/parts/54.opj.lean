/-! power, fits -/
theorem shlB : ∀ n : Fin 7, (1 : Int32) <<< (nI n.val &&& 31) = nI (2 ^ n.val) := by decide +kernel
theorem shl6 {n : Nat} (h : n ≤ 6) : ∃ B : Nat, B = 2 ^ n ∧ B ≤ 64 ∧ (1 : Int32) <<< (nI n &&& 31) = nI B := ⟨2 ^ n, rfl, pow64 h, shlB ⟨n, by omega⟩⟩
theorem pw_and : ∀ (c : Fin 6) (s : Fin 64), (nI s.val &&& (1 <<< (nI c.val &&& 31)) = 0) ↔ iB (nI s.val) (nI c.val) = false := by decide +kernel
theorem and_dist (s t x : Int32) : s &&& ((t &&& (x ^^^ (-1))) ^^^ (-1)) = (s &&& (t ^^^ (-1))) ||| (s &&& x) := by
  apply Int32.toBitVec_inj.mp
  simp only [Int32.toBitVec_and, Int32.toBitVec_xor, Int32.toBitVec_or]
  rw [show (-1 : Int32).toBitVec = BitVec.allOnes 32 from by decide]
  apply BitVec.eq_of_getLsbD_eq
  intro j hj
  simp only [BitVec.getLsbD_and, BitVec.getLsbD_xor, BitVec.getLsbD_or, BitVec.getLsbD_allOnes, hj, decide_true]
  cases s.toBitVec.getLsbD j <;> cases t.toBitVec.getLsbD j <;> cases x.toBitVec.getLsbD j <;> rfl
theorem pw_eq {c s : Nat} {t : Int32} (hc : c < 6) (hs : s < 64) : (nI s &&& ((t &&& ((1 <<< (nI c &&& 31)) ^^^ (-1))) ^^^ (-1)) = 0) ↔ (nI s &&& (t ^^^ (-1)) = 0 ∧ iB (nI s) (nI c) = false) := by
  rw [and_dist, or_eq0, pw_and ⟨c, hc⟩ ⟨s, hs⟩]
def waT (S : mm_I) (nc s : Nat) : Int32 := fo (waS S (nI s)) nc 0 0
def pwB (S : mm_I) (nc c : Nat) (t all own : Int32) (s : Nat) : Bool := decide (nI s &&& (t ^^^ (-1)) = 0) && !iB (nI s) (nI c) && !decide (all < 2 * waT S nc s) && decide (all < 2 * (waT S nc s + own))
def pwS (S : mm_I) (nc c : Nat) (t all own : Int32) (s : Nat) (n : Int32) : Int32 := if pwB S nc c t all own s = true then n + 1 else n
theorem lp_power {X : Nat × (Nat → Int32)} {d : Nat} {J S : mm_I} {nc c B : Nat} {t all own : Int32} {P : Int32 → mm_I → Prop} (c1 : J 11 1 = nI nc) (n6 : nc ≤ 6) (hB : (1 : Int32) <<< (nI nc &&& 31) = nI B) (hB64 : B ≤ 64) (hc : c < 6) (hw : ∀ t, hWo J 11 nc t = fo (waS S t) nc 0 0) (hQ : P (fo (pwS S nc c t all own) B 0 0) J) : ∀ (n i : Nat) (cnt : Int32) (v8 : Value), i + n = B → fo (pwS S nc c t all own) n i cnt = fo (pwS S nc c t all own) B 0 0 → mm_Ev mm_T0 X (d + 20) 97 80 [.ref 0, .int (nI c), .int t, .int all, .int own, .int (t &&& ((1 <<< (nI c &&& 31)) ^^^ (-1))), .int cnt, .int (nI i), v8] [] J (mm_pi P) := by
  have t0 := tCV
  intro n
  induction n with
  | zero =>
    intro i cnt v8 hi he
    have e : i = B := by omega
    subst e
    refine ev_ild7 k97_80 ?_
    refine ev_iconst k97_82 ?_
    refine ev_ald0 k97_83 ?_
    refine ev_getr k97_84 (by first | assumption | rfl) rfl rfl rfl ?_
    refine ev_gfv (j := 1) k97_87 (by first | assumption | rfl) rfl rfl rfl rfl c1 ?_
    refine ev_ishl k97_90 ?_
    rw [hB]
    refine ev_jcmp_ge k97_91 (fun h91 => ?_) (fun h91 => absurd h91 (nI_nlt (Nat.le_refl _) (by omega)))
    refine ev_ild6 k97_143 ?_
    refine ev_ri k97_145 rfl ?_
    rw [← he] at hQ
    exact hQ
  | succ n ih =>
    intro i cnt v8 hi he
    have hlt : i < B := by omega
    refine ev_ild7 k97_80 ?_
    refine ev_iconst k97_82 ?_
    refine ev_ald0 k97_83 ?_
    refine ev_getr k97_84 (by first | assumption | rfl) rfl rfl rfl ?_
    refine ev_gfv (j := 1) k97_87 (by first | assumption | rfl) rfl rfl rfl rfl c1 ?_
    refine ev_ishl k97_90 ?_
    rw [hB]
    refine ev_jcmp_ge k97_91 (fun h91 => absurd (nI_lt hlt (by omega)) h91) (fun h91 => ?_)
    refine ev_ald0 k97_94 ?_
    refine ev_getr k97_95 (by first | assumption | rfl) rfl rfl rfl ?_
    refine ev_ild7 k97_98 ?_
    refine ev_cV2i k97_100 cs_205 (by first | assumption | rfl) (by omega) (Nat.le_of_ble_eq_true rfl) rfl rfl rfl ?_
    refine sp_weightOf (nc := nc) hh11 c1 n6 ?_
    rw [hw, show fo (waS S (nI i)) nc 0 0 = waT S nc i from rfl]
    refine ev_ist8 k97_103 rfl ?_
    refine ev_ild7 k97_105 ?_
    refine ev_ild5 k97_107 ?_
    refine ev_iconst k97_109 ?_
    refine ev_ixor k97_110 ?_
    refine ev_iand k97_111 ?_
    refine ev_if_ne k97_112 (fun h112 => ?_) (fun h112 => ?_)
    ·
      refine ev_inc7 k97_137 rfl ?_
      refine ev_goto k97_140 ?_
      rw [nI_1]
      refine ih (i + 1) _ _ (by omega) ?_
      rw [← he]
      show _ = fo (pwS S nc c t all own) n (i + 1) (pwS S nc c t all own i cnt)
      have b : pwB S nc c t all own i = false := by unfold pwB; by_cases z : nI i &&& (t ^^^ (-1)) = 0 <;> simp only [z, decide_true, decide_false, Bool.false_and, Bool.true_and]; rw [show iB (nI i) (nI c) = true from by cases w : iB (nI i) (nI c) with | true => rfl | false => exact absurd ((pw_eq hc (by omega)).mpr ⟨z, w⟩) h112]; rfl
      rw [show pwS S nc c t all own i cnt = cnt from if_neg (by rw [b]; decide)]
    ·
      refine ev_iconst k97_115 ?_
      refine ev_ild8 k97_116 ?_
      refine ev_imul k97_118 ?_
      refine ev_ild3 k97_119 ?_
      refine ev_icmp_gt k97_120 (fun h120 => ?_) (fun h120 => ?_)
      ·
        refine ev_inc7 k97_137 rfl ?_
        refine ev_goto k97_140 ?_
        rw [nI_1]
        refine ih (i + 1) _ _ (by omega) ?_
        rw [← he]
        show _ = fo (pwS S nc c t all own) n (i + 1) (pwS S nc c t all own i cnt)
        have e0 := (pw_eq hc (by omega)).mp h112
        have b : pwB S nc c t all own i = false := by unfold pwB; rw [decide_eq_true h120]; simp
        rw [show pwS S nc c t all own i cnt = cnt from if_neg (by rw [b]; decide)]
      ·
        refine ev_iconst k97_123 ?_
        refine ev_ild8 k97_124 ?_
        refine ev_ild4 k97_126 ?_
        refine ev_iadd k97_128 ?_
        refine ev_imul k97_129 ?_
        refine ev_ild3 k97_130 ?_
        refine ev_jcmp_le k97_131 (fun h131 => ?_) (fun h131 => ?_)
        ·
          refine ev_inc7 k97_137 rfl ?_
          refine ev_goto k97_140 ?_
          rw [nI_1]
          refine ih (i + 1) _ _ (by omega) ?_
          rw [← he]
          show _ = fo (pwS S nc c t all own) n (i + 1) (pwS S nc c t all own i cnt)
          have e0 := (pw_eq hc (by omega)).mp h112
          have b : pwB S nc c t all own i = false := by unfold pwB; rw [decide_eq_false h131]; simp
          rw [show pwS S nc c t all own i cnt = cnt from if_neg (by rw [b]; decide)]
        ·
          refine ev_inc6 k97_134 rfl ?_
          refine ev_inc7 k97_137 rfl ?_
          refine ev_goto k97_140 ?_
          rw [nI_1]
          refine ih (i + 1) _ _ (by omega) ?_
          rw [← he]
          show _ = fo (pwS S nc c t all own) n (i + 1) (pwS S nc c t all own i cnt)
          have e0 := (pw_eq hc (by omega)).mp h112
          have b : pwB S nc c t all own i = true := by unfold pwB; rw [decide_eq_true e0.1, e0.2, decide_eq_false h120, decide_eq_true h131]; rfl
          rw [show pwS S nc c t all own i cnt = cnt + 1 from if_pos b]
theorem lm_power {X : Nat × (Nat → Int32)} {d : Nat} {I S : mm_I} {nc np c B : Nat} {t all own : Int32} {P : Int32 → mm_I → Prop} (rm : RM S I nc np) (ok : hOK S 0 nc) (sr : sR S nc np) (tt : TR S I) (hB : (1 : Int32) <<< (nI nc &&& 31) = nI B) (hB64 : B ≤ 64) (hc : c < 6) (hQ : ∀ J, sc I J → P (fo (pwS S nc c t all own) B 0 0) J) : ∀ (n i : Nat) (J : mm_I) (cnt : Int32) (v7 : Value) (v8 : Value), i + n = B → (sc I J ∧ fo (pwS S nc c t all own) n i cnt = fo (pwS S nc c t all own) B 0 0) → mm_Ev mm_T0 X (d + 20) 207 54 [.ref 91, .int (nI c), .int t, .int all, .int own, .int cnt, .int (nI i), v7, v8] [] J (mm_pi P) := by
  have tm := tM
  have tr := tR
  intro n
  induction n with
  | zero =>
    intro i J cnt v7 v8 hi hv
    have e : i = B := by omega
    subst e
    refine ev_ild6 k207_54 ?_
    refine ev_iconst k207_56 ?_
    refine ev_ald0 k207_57 ?_
    refine ev_getr k207_58 (by first | assumption | rfl) rfl rfl rfl ?_
    refine ev_iconst k207_61 ?_
    refine ev_ialv (j := 2) k207_62 (by first | assumption | rfl) (by omega) rfl (vp_dec rfl) ((congrFun (hv.1 92 (by decide) (by decide)) 2).trans rm.1.1) ?_
    refine ev_ishl k207_63 ?_
    rw [hB]
    refine ev_jcmp_ge k207_64 (fun h64 => ?_) (fun h64 => absurd h64 (nI_nlt (Nat.le_refl _) (by omega)))
    refine ev_ild5 k207_140 ?_
    refine ev_ri k207_142 rfl ?_
    have e2 := hv.2
    rw [show fo (pwS S nc c t all own) 0 i cnt = cnt from rfl] at e2
    rw [e2]
    exact hQ J hv.1
  | succ n ih =>
    intro i J cnt v7 v8 hi hv
    have hlt : i < B := by omega
    refine ev_ild6 k207_54 ?_
    refine ev_iconst k207_56 ?_
    refine ev_ald0 k207_57 ?_
    refine ev_getr k207_58 (by first | assumption | rfl) rfl rfl rfl ?_
    refine ev_iconst k207_61 ?_
    refine ev_ialv (j := 2) k207_62 (by first | assumption | rfl) (by omega) rfl (vp_dec rfl) ((congrFun (hv.1 92 (by decide) (by decide)) 2).trans rm.1.1) ?_
    refine ev_ishl k207_63 ?_
    rw [hB]
    refine ev_jcmp_ge k207_64 (fun h64 => absurd (nI_lt hlt (by omega)) h64) (fun h64 => ?_)
    refine ev_ald0 k207_67 ?_
    refine ev_ild6 k207_68 ?_
    refine ev_cV2i k207_70 cs_272 (by first | assumption | rfl) (by omega) (Nat.le_of_ble_eq_true rfl) rfl rfl rfl ?_
    refine sm_weightAll (RM_congr (hv.1 92 (by decide) (by decide)) rm) ok sr (TR_congr (hv.1 92 (by decide) (by decide)) tt) (fun K hK => ?_)
    rw [show fo (waS S (nI i)) nc 0 0 = waT S nc i from rfl]
    refine ev_ist7 k207_73 rfl ?_
    refine ev_ild6 k207_75 ?_
    refine ev_ild2 k207_77 ?_
    refine ev_iconst k207_78 ?_
    refine ev_ixor k207_79 ?_
    refine ev_iand k207_80 ?_
    refine ev_if_ne k207_81 (fun h81 => ?_) (fun h81 => ?_)
    ·
      refine ev_iconst k207_97 ?_
      refine ev_ist8 k207_98 rfl ?_
      refine ev_ild5 k207_100 ?_
      refine ev_ild8 k207_102 ?_
      refine ev_if_eq k207_104 (fun h104 => ?_) (fun h104 => absurd rfl h104)
      refine ev_iconst k207_130 ?_
      refine ev_iadd k207_131 ?_
      refine ev_ist5 k207_132 rfl ?_
      refine ev_inc6 k207_134 rfl ?_
      refine ev_goto k207_137 ?_
      rw [nI_1]
      refine ih (i + 1) K _ _ _ (by omega) ⟨sc_tr hv.1 hK, ?_⟩
      rw [← hv.2]
      show _ = fo (pwS S nc c t all own) n (i + 1) (pwS S nc c t all own i cnt)
      have b : pwB S nc c t all own i = false := by unfold pwB; rw [decide_eq_false h81]; simp
      rw [show pwS S nc c t all own i cnt = cnt + 0 from by rw [Int32.add_zero]; exact if_neg (by rw [b]; decide)]
    ·
      refine ev_ild6 k207_84 ?_
      refine ev_ild1 k207_86 ?_
      refine ev_ishr k207_87 ?_
      refine ev_iconst k207_88 ?_
      refine ev_iand k207_89 ?_
      refine ev_if_ne k207_90 (fun h90 => ?_) (fun h90 => ?_)
      ·
        refine ev_iconst k207_97 ?_
        refine ev_ist8 k207_98 rfl ?_
        refine ev_ild5 k207_100 ?_
        refine ev_ild8 k207_102 ?_
        refine ev_if_eq k207_104 (fun h104 => ?_) (fun h104 => absurd rfl h104)
        refine ev_iconst k207_130 ?_
        refine ev_iadd k207_131 ?_
        refine ev_ist5 k207_132 rfl ?_
        refine ev_inc6 k207_134 rfl ?_
        refine ev_goto k207_137 ?_
        rw [nI_1]
        refine ih (i + 1) K _ _ _ (by omega) ⟨sc_tr hv.1 hK, ?_⟩
        rw [← hv.2]
        show _ = fo (pwS S nc c t all own) n (i + 1) (pwS S nc c t all own i cnt)
        have b : pwB S nc c t all own i = false := by unfold pwB; rw [iB_t h90]; simp
        rw [show pwS S nc c t all own i cnt = cnt + 0 from by rw [Int32.add_zero]; exact if_neg (by rw [b]; decide)]
      ·
        refine ev_iconst k207_93 ?_
        refine ev_goto k207_94 ?_
        refine ev_ist8 k207_98 rfl ?_
        refine ev_ild5 k207_100 ?_
        refine ev_ild8 k207_102 ?_
        refine ev_if_eq k207_104 (fun h104 => absurd h104 (by decide)) (fun h104 => ?_)
        refine ev_iconst k207_107 ?_
        refine ev_ild7 k207_108 ?_
        refine ev_imul k207_110 ?_
        refine ev_ild3 k207_111 ?_
        refine ev_icmp_gt k207_112 (fun h112 => ?_) (fun h112 => ?_)
        ·
          refine ev_iconst k207_130 ?_
          refine ev_iadd k207_131 ?_
          refine ev_ist5 k207_132 rfl ?_
          refine ev_inc6 k207_134 rfl ?_
          refine ev_goto k207_137 ?_
          rw [nI_1]
          refine ih (i + 1) K _ _ _ (by omega) ⟨sc_tr hv.1 hK, ?_⟩
          rw [← hv.2]
          show _ = fo (pwS S nc c t all own) n (i + 1) (pwS S nc c t all own i cnt)
          have b : pwB S nc c t all own i = false := by unfold pwB; rw [decide_eq_true h112]; simp
          rw [show pwS S nc c t all own i cnt = cnt + 0 from by rw [Int32.add_zero]; exact if_neg (by rw [b]; decide)]
        ·
          refine ev_iconst k207_115 ?_
          refine ev_ild7 k207_116 ?_
          refine ev_ild4 k207_118 ?_
          refine ev_iadd k207_120 ?_
          refine ev_imul k207_121 ?_
          refine ev_ild3 k207_122 ?_
          refine ev_jcmp_le k207_123 (fun h123 => ?_) (fun h123 => ?_)
          ·
            refine ev_iconst k207_130 ?_
            refine ev_iadd k207_131 ?_
            refine ev_ist5 k207_132 rfl ?_
            refine ev_inc6 k207_134 rfl ?_
            refine ev_goto k207_137 ?_
            rw [nI_1]
            refine ih (i + 1) K _ _ _ (by omega) ⟨sc_tr hv.1 hK, ?_⟩
            rw [← hv.2]
            show _ = fo (pwS S nc c t all own) n (i + 1) (pwS S nc c t all own i cnt)
            have b : pwB S nc c t all own i = false := by unfold pwB; rw [decide_eq_false h123]; simp
            rw [show pwS S nc c t all own i cnt = cnt + 0 from by rw [Int32.add_zero]; exact if_neg (by rw [b]; decide)]
          ·
            refine ev_iconst k207_126 ?_
            refine ev_goto k207_127 ?_
            refine ev_iadd k207_131 ?_
            refine ev_ist5 k207_132 rfl ?_
            refine ev_inc6 k207_134 rfl ?_
            refine ev_goto k207_137 ?_
            rw [nI_1]
            refine ih (i + 1) K _ _ _ (by omega) ⟨sc_tr hv.1 hK, ?_⟩
            rw [← hv.2]
            show _ = fo (pwS S nc c t all own) n (i + 1) (pwS S nc c t all own i cnt)
            have b : pwB S nc c t all own i = true := by unfold pwB; rw [decide_eq_true h81, iB_f h90, decide_eq_false h112, decide_eq_true h123]; rfl
            rw [show pwS S nc c t all own i cnt = cnt + 1 from if_pos b]
/-- CV.power -/
theorem op_power {X : Nat × (Nat → Int32)} {d : Nat} {I : mm_I} {P : Int32 → mm_I → Prop} {a : Int32} (inv : Inv I) (hQ : ∀ v J, mm_Ev mm_T0 X (d + 60) 207 0 (mm_ent 207 [.ref 91, .int a]) [] J (mm_pi fun w K => w = v ∧ Inv K) → P v J) : mm_Ev mm_T0 X (d + 60) 97 0 (mm_ent 97 [.ref 0, .int a]) [] I (mm_pi P) := by
  show mm_Ev mm_T0 X (d + 60) 97 0 [.ref 0, .int a, .retAddr 0, .retAddr 0, .retAddr 0, .retAddr 0, .retAddr 0, .retAddr 0, .retAddr 0] [] I (mm_pi P)
  obtain ⟨nc, np, hs⟩ := inv.1
  obtain ⟨c1, n6, p1, p6, rc, rp, rm, ok, sr, tt⟩ := hsF hs
  have t0 := tCV
  have tm := tM
  have tr := tR
  refine ev_ald0 k97_0 ?_
  refine ev_ild1 k97_1 ?_
  refine ev_cV2i k97_2 cs_176 (by first | assumption | rfl) (by omega) (Nat.le_of_ble_eq_true rfl) rfl rfl rfl ?_
  refine sp_cChair c1 ?_
  refine ev_ifz_ne k97_5 (fun h5 => ?_) (fun h5 => ?_)
  ·
    obtain ⟨c, hc, rfl⟩ := wB_in (n := nc) (by omega) h5
    refine ev_ald0 k97_15 ?_
    refine ev_getr k97_16 (by first | assumption | rfl) rfl rfl rfl ?_
    refine ev_cV1i k97_19 cs_194 (by first | assumption | rfl) (by omega) (Nat.le_of_ble_eq_true rfl) rfl rfl rfl ?_
    refine sp_taken hh11 p1 p6 ?_
    refine ev_ist2 k97_22 rfl ?_
    refine ev_ild2 k97_23 ?_
    refine ev_ild1 k97_24 ?_
    refine ev_cS2i k97_25 cs_202 rfl rfl rfl ?_
    refine sp_isIn ?_
    refine ev_ifz_ne k97_28 (fun h28 => ?_) (fun h28 => ?_)
    ·
      refine ev_ald0 k97_38 ?_
      refine ev_getr k97_39 (by first | assumption | rfl) rfl rfl rfl ?_
      refine ev_cV1v k97_42 cs_192 (by first | assumption | rfl) (by omega) (Nat.le_of_ble_eq_true rfl) rfl rfl rfl ?_
      refine sp_weighAll hh11 ok (fun g => ?_)
      have inv2 : Inv (hWI I 11 nc g) := Inv_W inv
      have ok2 : ∀ c, c < nc → hWI I 11 nc g (11 + 1) c = nI (hK (hWI I 11 nc g) 11 c) ∧ hK (hWI I 11 nc g) 11 c < 7 := ok.2.2.1
      refine ev_ald0 k97_45 ?_
      refine ev_getr k97_46 (by first | assumption | rfl) rfl rfl rfl ?_
      refine ev_ild2 k97_49 ?_
      refine ev_cV2i k97_50 cs_205 (by first | assumption | rfl) (by omega) (Nat.le_of_ble_eq_true rfl) rfl rfl rfl ?_
      refine sp_weightOf (I := hWI I 11 nc g) hh11 (nc := nc) c1 n6 ?_
      rw [show hTk I 11 np = hTk (cells I 11) 0 np from rfl, woW]
      refine ev_ist3 k97_53 rfl ?_
      refine ev_ald0 k97_54 ?_
      refine ev_getr k97_55 (by first | assumption | rfl) rfl rfl rfl ?_
      refine ev_getr k97_58 (by first | assumption | rfl) rfl rfl rfl ?_
      refine ev_ild1 k97_61 ?_
      refine ev_ialv (j := c) k97_62 (by first | assumption | rfl) (by omega) (nI_clamp (by omega)) (vp_in_nI (show c < 6 by omega) (by omega)) (wt5 hc) ?_
      refine ev_ist4 k97_63 rfl ?_
      refine ev_ild2 k97_65 ?_
      refine ev_iconst k97_66 ?_
      refine ev_ild1 k97_67 ?_
      refine ev_ishl k97_68 ?_
      refine ev_iconst k97_69 ?_
      refine ev_ixor k97_70 ?_
      refine ev_iand k97_71 ?_
      refine ev_ist5 k97_72 rfl ?_
      refine ev_iconst k97_74 ?_
      refine ev_ist6 k97_75 rfl ?_
      refine ev_iconst k97_77 ?_
      refine ev_ist7 k97_78 rfl ?_
      obtain ⟨B, hB0, hB64, hB⟩ := shl6 n6
      refine lp_power (J := hWI I 11 nc g) (S := cells I 11) (nc := nc) (c := c) (t := hTk (cells I 11) 0 np) c1 n6 hB hB64 (by omega) (fun t => woW) ?_ B 0 0 (.retAddr 0) (by omega) rfl
      refine hQ _ _ ?_
      show mm_Ev mm_T0 X (d + 60) 207 0 [.ref 91, .int _, .retAddr 0, .retAddr 0, .retAddr 0, .retAddr 0, .retAddr 0, .retAddr 0, .retAddr 0] [] _ (mm_pi _)
      refine ev_ald0 k207_0 ?_
      refine ev_ild1 k207_1 ?_
      refine ev_cV2i k207_2 cs_239 (by first | assumption | rfl) (by omega) (Nat.le_of_ble_eq_true rfl) rfl rfl rfl ?_
      refine sm_cChair (show _ = nI nc from rc) ?_
      refine ev_ifz_ne k207_5 (fun g5 => ?_) (fun g5 => Bool.noConfusion (Eq.trans (Eq.symm h5) g5))
      refine ev_ald0 k207_15 ?_
      refine ev_cV1i k207_16 cs_235 (by first | assumption | rfl) (by omega) (Nat.le_of_ble_eq_true rfl) rfl rfl rfl ?_
      refine sm_taken (S := cells I 11) rm sr ?_
      refine ev_ist2 k207_19 rfl ?_
      refine ev_ild2 k207_20 ?_
      refine ev_ild1 k207_21 ?_
      refine ev_ishr k207_22 ?_
      refine ev_iconst k207_23 ?_
      refine ev_iand k207_24 ?_
      refine ev_if_ne k207_25 (fun g25 => ?_) (fun g25 => Bool.noConfusion (Eq.trans (Eq.symm h28) (iB_f g25)))
      refine ev_ald0 k207_35 ?_
      refine ev_ild2 k207_36 ?_
      refine ev_cV2i k207_37 cs_272 (by first | assumption | rfl) (by omega) (Nat.le_of_ble_eq_true rfl) rfl rfl rfl ?_
      refine sm_weightAll (S := cells I 11) rm ok sr tt (fun K1 hK1 => ?_)
      refine ev_ist3 k207_40 rfl ?_
      refine ev_ald0 k207_41 ?_
      refine ev_ild1 k207_42 ?_
      refine ev_cV2i k207_43 cs_233 (by first | assumption | rfl) (by omega) (Nat.le_of_ble_eq_true rfl) rfl rfl rfl ?_
      refine sm_weightOf (S := cells I 11) (RM_congr (hK1 92 (by decide) (by decide)) rm) ok sr (TR_congr (hK1 92 (by decide) (by decide)) tt) hc (fun K2 hK2 => ?_)
      refine ev_ist4 k207_46 rfl ?_
      refine ev_iconst k207_48 ?_
      refine ev_ist5 k207_49 rfl ?_
      refine ev_iconst k207_51 ?_
      refine ev_ist6 k207_52 rfl ?_
      refine lm_power (S := cells I 11) (nc := nc) (np := np) (c := c) (t := hTk (cells I 11) 0 np) (RM_congr (hK2 92 (by decide) (by decide)) (RM_congr (hK1 92 (by decide) (by decide)) rm)) ok sr (TR_congr (hK2 92 (by decide) (by decide)) (TR_congr (hK1 92 (by decide) (by decide)) tt)) hB hB64 (by omega) (fun K hK => ?_) B 0 K2 0 (.retAddr 0) (.retAddr 0) (by omega) ⟨sc_rf _, rfl⟩
      exact ⟨rfl, Inv_sc (Inv_sc (Inv_sc inv2 hK1) hK2) hK⟩
    ·
      refine ev_ald0 k97_31 ?_
      refine ev_ldc k97_32 ?_
      refine ev_cV2i k97_34 cs_174 (by first | assumption | rfl) (by omega) (Nat.le_of_ble_eq_true rfl) rfl rfl rfl ?_
      refine sp_error (k := 3) (by decide) (by decide) (by decide) ?_
      refine ev_ri k97_37 rfl ?_
      refine hQ _ _ ?_
      show mm_Ev mm_T0 X (d + 60) 207 0 [.ref 91, .int _, .retAddr 0, .retAddr 0, .retAddr 0, .retAddr 0, .retAddr 0, .retAddr 0, .retAddr 0] [] _ (mm_pi _)
      refine ev_ald0 k207_0 ?_
      refine ev_ild1 k207_1 ?_
      refine ev_cV2i k207_2 cs_239 (by first | assumption | rfl) (by omega) (Nat.le_of_ble_eq_true rfl) rfl rfl rfl ?_
      refine sm_cChair (show _ = nI nc from rc) ?_
      refine ev_ifz_ne k207_5 (fun g5 => ?_) (fun g5 => Bool.noConfusion (Eq.trans (Eq.symm h5) g5))
      refine ev_ald0 k207_15 ?_
      refine ev_cV1i k207_16 cs_235 (by first | assumption | rfl) (by omega) (Nat.le_of_ble_eq_true rfl) rfl rfl rfl ?_
      refine sm_taken (S := cells I 11) rm sr ?_
      refine ev_ist2 k207_19 rfl ?_
      refine ev_ild2 k207_20 ?_
      refine ev_ild1 k207_21 ?_
      refine ev_ishr k207_22 ?_
      refine ev_iconst k207_23 ?_
      refine ev_iand k207_24 ?_
      refine ev_if_ne k207_25 (fun g25 => Bool.noConfusion (Eq.trans (Eq.symm (iB_t g25)) h28)) (fun g25 => ?_)
      refine ev_ald0 k207_28 ?_
      refine ev_ldc k207_29 ?_
      refine ev_cV2i k207_31 cs_238 (by first | assumption | rfl) (by omega) (Nat.le_of_ble_eq_true rfl) rfl rfl rfl ?_
      refine sm_error (k := 3) (by decide) (by decide) ?_
      refine ev_ri k207_34 rfl ?_
      first | exact ⟨rfl, Inv_e rfl rfl inv⟩ | exact ⟨rfl, inv⟩
  ·
    refine ev_ald0 k97_8 ?_
    refine ev_ldc k97_9 ?_
    refine ev_cV2i k97_11 cs_174 (by first | assumption | rfl) (by omega) (Nat.le_of_ble_eq_true rfl) rfl rfl rfl ?_
    refine sp_error (k := 1) (by decide) (by decide) (by decide) ?_
    refine ev_ri k97_14 rfl ?_
    refine hQ _ _ ?_
    show mm_Ev mm_T0 X (d + 60) 207 0 [.ref 91, .int _, .retAddr 0, .retAddr 0, .retAddr 0, .retAddr 0, .retAddr 0, .retAddr 0, .retAddr 0] [] _ (mm_pi _)
    refine ev_ald0 k207_0 ?_
    refine ev_ild1 k207_1 ?_
    refine ev_cV2i k207_2 cs_239 (by first | assumption | rfl) (by omega) (Nat.le_of_ble_eq_true rfl) rfl rfl rfl ?_
    refine sm_cChair (show _ = nI nc from rc) ?_
    refine ev_ifz_ne k207_5 (fun g5 => Bool.noConfusion (Eq.trans (Eq.symm h5) g5)) (fun g5 => ?_)
    refine ev_ald0 k207_8 ?_
    refine ev_ldc k207_9 ?_
    refine ev_cV2i k207_11 cs_238 (by first | assumption | rfl) (by omega) (Nat.le_of_ble_eq_true rfl) rfl rfl rfl ?_
    refine sm_error (k := 1) (by decide) (by decide) ?_
    refine ev_ri k207_14 rfl ?_
    first | exact ⟨rfl, Inv_e rfl rfl inv⟩ | exact ⟨rfl, inv⟩
/-- how many of n from i on -/
def cn (f : Nat → Bool) : Nat → Nat → Nat
  | 0, _ => 0
  | n + 1, i => (if f i = true then 1 else 0) + cn f n (i + 1)
theorem cn_le (f : Nat → Bool) : ∀ n i, cn f n i ≤ n
  | 0, _ => Nat.le_refl _
  | n + 1, i => by
    have z := cn_le f n (i + 1)
    unfold cn
    split <;> omega
def mgS (S : mm_I) (nc : Nat) (b s : Nat) : Int32 := hMv S 0 nc (hWt S 0) (nI b) (nI s)
def ftG (S : mm_I) (nc : Nat) (v : Nat → Int32) (s b : Nat) : Bool := !decide (mgS S nc b s = v b)
def ftB (S : mm_I) (nc ln : Nat) (v : Nat → Int32) (z : Int32) (s : Nat) : Bool := decide (bc (nI s) = z) && (fnd (ftG S nc v s) ln 0).isNone
theorem lp_allWent {X : Nat × (Nat → Int32)} {d : Nat} {J S : mm_I} {nc s ln x : Nat} {v : Nat → Int32} {P : Int32 → mm_I → Prop} (c1 : J 11 1 = nI nc) (n6 : nc ≤ 6) (ok2 : ∀ c, c < nc → J (11 + 1) c = nI (hK J 11 c) ∧ hK J 11 c < 7) (hs4 : s < 4) (hln : ln ≤ 40) (c3 : J (80 + 2 * s) 2 = nI ln) (hv : J (80 + 2 * s + 1) = v) (hw : ∀ b t, hMg J 11 nc b t = hMv S 0 nc (hWt S 0) b t) (hQ : P (bI (fnd (ftG S nc v x) ln 0).isNone) J) : ∀ (n i : Nat), i + n = ln → fnd (ftG S nc v x) n i = fnd (ftG S nc v x) ln 0 → mm_Ev mm_T0 X (d + 20) 134 2 [.ref 0, .ref (80 + 2 * s), .int (nI x), .int (nI i)] [] J (mm_pi P) := by
  have t0 := tCV
  have ts0 := tS0 hs4
  have ts1 := tS1 hs4
  intro n
  induction n with
  | zero =>
    intro i hi he
    have e : i = ln := by omega
    subst e
    refine ev_ild3 k134_2 ?_
    refine ev_ald1 k134_3 ?_
    refine ev_gfv (j := 2) k134_4 (by first | assumption | rfl) rfl rfl rfl rfl c3 ?_
    refine ev_jcmp_ge k134_7 (fun h7 => ?_) (fun h7 => absurd h7 (nI_nlt (Nat.le_refl _) (by omega)))
    refine ev_iconst k134_35 ?_
    refine ev_rz k134_36 rfl (by first | exact bI01 _ | exact Or.inl rfl | exact Or.inr rfl | assumption) ?_
    rw [← he] at hQ
    exact hQ
  | succ n ih =>
    intro i hi he
    have hlt : i < ln := by omega
    refine ev_ild3 k134_2 ?_
    refine ev_ald1 k134_3 ?_
    refine ev_gfv (j := 2) k134_4 (by first | assumption | rfl) rfl rfl rfl rfl c3 ?_
    refine ev_jcmp_ge k134_7 (fun h7 => absurd (nI_lt hlt (by omega)) h7) (fun h7 => ?_)
    refine ev_ald0 k134_10 ?_
    refine ev_getr k134_11 (by first | assumption | rfl) rfl rfl rfl ?_
    refine ev_ild3 k134_14 ?_
    refine ev_ild2 k134_15 ?_
    refine ev_cV3i k134_16 cs_195 (by first | assumption | rfl) (by omega) (Nat.le_of_ble_eq_true rfl) rfl rfl rfl ?_
    refine sp_margin hh11 (nc := nc) c1 n6 ok2 ?_
    rw [hw, show hMv S 0 nc (hWt S 0) (nI i) (nI x) = mgS S nc i x from rfl]
    refine ev_ald1 k134_19 ?_
    refine ev_ild3 k134_20 ?_
    refine ev_cV2i k134_21 cs_215 (by first | assumption | rfl) (by omega) (Nat.le_of_ble_eq_true rfl) rfl rfl rfl ?_
    refine sp_get (ra := 80 + 2 * s) (N := 40) (n := ln) ts0 ts1 (by omega) c3 hln (by decide) ?_
    rw [if_pos (inB_of (show i < ln by omega) (by omega)), nI_clamp (by omega), show J (80 + 2 * s + 1) i = v i from congrFun hv i]
    refine ev_icmp_eq k134_24 (fun h24 => ?_) (fun h24 => ?_)
    ·
      refine ev_inc3 k134_29 rfl ?_
      refine ev_goto k134_32 ?_
      have e : fnd (ftG S nc v x) (n + 1) i = fnd (ftG S nc v x) n (i + 1) := if_neg (show ¬ ftG S nc v x i = true from by unfold ftG; rw [decide_eq_true h24]; decide)
      rw [nI_1]
      exact ih (i + 1) (by omega) (e.symm.trans he)
    ·
      refine ev_iconst k134_27 ?_
      refine ev_rz k134_28 rfl (by first | exact bI01 _ | exact Or.inl rfl | exact Or.inr rfl | assumption) ?_
      have e : fnd (ftG S nc v x) (n + 1) i = some i := if_pos (show ftG S nc v x i = true from by unfold ftG; rw [decide_eq_false h24]; rfl)
      rw [e] at he
      rw [← he] at hQ
      exact hQ
/-- CV.allWentSo -/
theorem sp_allWent {X : Nat × (Nat → Int32)} {d : Nat} {I : mm_I} {S : mm_I} {nc s ln x : Nat} {v : Nat → Int32} {P : Int32 → mm_I → Prop} (c1 : I 11 1 = nI nc) (n6 : nc ≤ 6) (ok2 : ∀ c, c < nc → I (11 + 1) c = nI (hK I 11 c) ∧ hK I 11 c < 7) (hs4 : s < 4) (hln : ln ≤ 40) (c3 : I (80 + 2 * s) 2 = nI ln) (hv : I (80 + 2 * s + 1) = v) (hw : ∀ b t, hMg I 11 nc b t = hMv S 0 nc (hWt S 0) b t) (hQ : P (bI (fnd (ftG S nc v x) ln 0).isNone) I) : mm_Ev mm_T0 X (d + 20) 134 0 (mm_ent 134 [.ref 0, .ref (80 + 2 * s), .int (nI x)]) [] I (mm_pi P) := by
  show mm_Ev mm_T0 X (d + 20) 134 0 [.ref 0, .ref (80 + 2 * s), .int (nI x), .retAddr 0] [] I (mm_pi P)
  refine ev_iconst k134_0 ?_
  refine ev_ist3 k134_1 rfl ?_
  exact lp_allWent c1 n6 ok2 hs4 hln c3 hv hw hQ ln 0 (by omega) rfl
theorem lp_fits0 {X : Nat × (Nat → Int32)} {d : Nat} {J S : mm_I} {nc s ln B : Nat} {v : Nat → Int32} {z : Int32} {P : Int32 → mm_I → Prop} (c1 : J 11 1 = nI nc) (n6 : nc ≤ 6) (ok2 : ∀ c, c < nc → J (11 + 1) c = nI (hK J 11 c) ∧ hK J 11 c < 7) (hs4 : s < 4) (hln : ln ≤ 40) (c3 : J (80 + 2 * s) 2 = nI ln) (hv : J (80 + 2 * s + 1) = v) (hw : ∀ b t, hMg J 11 nc b t = hMv S 0 nc (hWt S 0) b t) (hB : (1 : Int32) <<< (nI nc &&& 31) = nI B) (hB64 : B ≤ 64) (hQ : P (nI (cn (ftB S nc ln v z) B 0)) J) : ∀ (n i : Nat) (x : Nat), i + n = B → x + cn (ftB S nc ln v z) n i = cn (ftB S nc ln v z) B 0 → mm_Ev mm_T0 X (d + 30) 98 78 [.ref 0, .int (nI s), .int 0, .ref (80 + 2 * s), .int z, .int (nI x), .int (nI i)] [] J (mm_pi P) := by
  have t0 := tCV
  intro n
  induction n with
  | zero =>
    intro i x hi he
    have e : i = B := by omega
    subst e
    refine ev_ild6 k98_78 ?_
    refine ev_iconst k98_80 ?_
    refine ev_ald0 k98_81 ?_
    refine ev_getr k98_82 (by first | assumption | rfl) rfl rfl rfl ?_
    refine ev_gfv (j := 1) k98_85 (by first | assumption | rfl) rfl rfl rfl rfl c1 ?_
    refine ev_ishl k98_88 ?_
    rw [hB]
    refine ev_jcmp_ge k98_89 (fun h89 => ?_) (fun h89 => absurd h89 (nI_nlt (Nat.le_refl _) (by omega)))
    refine ev_ild2 k98_129 ?_
    refine ev_iconst k98_130 ?_
    refine ev_icmp_ne k98_131 (fun h131 => ?_) (fun h131 => absurd h131 (by decide))
    refine ev_ild5 k98_143 ?_
    refine ev_ri k98_145 rfl ?_
    rw [← he] at hQ
    exact hQ
  | succ n ih =>
    intro i x hi he
    have hlt : i < B := by omega
    refine ev_ild6 k98_78 ?_
    refine ev_iconst k98_80 ?_
    refine ev_ald0 k98_81 ?_
    refine ev_getr k98_82 (by first | assumption | rfl) rfl rfl rfl ?_
    refine ev_gfv (j := 1) k98_85 (by first | assumption | rfl) rfl rfl rfl rfl c1 ?_
    refine ev_ishl k98_88 ?_
    rw [hB]
    refine ev_jcmp_ge k98_89 (fun h89 => absurd (nI_lt hlt (by omega)) h89) (fun h89 => ?_)
    refine ev_ild6 k98_92 ?_
    refine ev_cS1i k98_94 cs_198 rfl rfl rfl ?_
    refine sp_bitCount ?_
    refine ev_ild4 k98_97 ?_
    refine ev_icmp_ne k98_99 (fun h99 => ?_) (fun h99 => ?_)
    ·
      refine ev_inc6 k98_123 rfl ?_
      refine ev_goto k98_126 ?_
      have b : ftB S nc ln v z i = false := by unfold ftB; rw [decide_eq_false h99]; rfl
      rw [nI_1]
      refine ih (i + 1) _ (by omega) ?_
      rw [← he]
      show _ = _ + ((if ftB S nc ln v z i = true then 1 else 0) + cn (ftB S nc ln v z) n (i + 1))
      rw [if_neg (by rw [b]; decide)]; omega
    ·
      refine ev_ald0 k98_102 ?_
      refine ev_ald3 k98_103 ?_
      refine ev_ild6 k98_104 ?_
      refine ev_cV3i k98_106 cs_207 (by first | assumption | rfl) (by omega) (Nat.le_of_ble_eq_true rfl) rfl rfl rfl ?_
      refine sp_allWent c1 n6 ok2 hs4 hln c3 hv hw ?_
      refine ev_ifz_eq k98_109 (fun h109 => ?_) (fun h109 => ?_)
      ·
        refine ev_inc6 k98_123 rfl ?_
        refine ev_goto k98_126 ?_
        have b : ftB S nc ln v z i = false := by unfold ftB; rw [decide_eq_true h99, h109]; rfl
        rw [nI_1]
        refine ih (i + 1) _ (by omega) ?_
        rw [← he]
        show _ = _ + ((if ftB S nc ln v z i = true then 1 else 0) + cn (ftB S nc ln v z) n (i + 1))
        rw [if_neg (by rw [b]; decide)]; omega
      ·
        refine ev_ild2 k98_112 ?_
        refine ev_iconst k98_113 ?_
        refine ev_icmp_ne k98_114 (fun h114 => ?_) (fun h114 => absurd h114 (by decide))
        refine ev_inc5 k98_120 rfl ?_
        refine ev_inc6 k98_123 rfl ?_
        refine ev_goto k98_126 ?_
        have b : ftB S nc ln v z i = true := by unfold ftB; rw [decide_eq_true h99, h109]; rfl
        rw [nI_1]
        rw [nI_1]
        refine ih (i + 1) _ (by omega) ?_
        rw [← he]
        show _ = _ + ((if ftB S nc ln v z i = true then 1 else 0) + cn (ftB S nc ln v z) n (i + 1))
        rw [if_pos b]; omega
theorem lp_fits1 {X : Nat × (Nat → Int32)} {d : Nat} {J S : mm_I} {nc s ln B : Nat} {v : Nat → Int32} {z : Int32} {P : Int32 → mm_I → Prop} (c1 : J 11 1 = nI nc) (n6 : nc ≤ 6) (ok2 : ∀ c, c < nc → J (11 + 1) c = nI (hK J 11 c) ∧ hK J 11 c < 7) (hs4 : s < 4) (hln : ln ≤ 40) (c3 : J (80 + 2 * s) 2 = nI ln) (hv : J (80 + 2 * s + 1) = v) (hw : ∀ b t, hMg J 11 nc b t = hMv S 0 nc (hWt S 0) b t) (hB : (1 : Int32) <<< (nI nc &&& 31) = nI B) (hB64 : B ≤ 64) (hQ : P (wnR (fnd (ftB S nc ln v z) B 0)) (wnS (fnd (ftB S nc ln v z) B 0) J)) : ∀ (n i : Nat), i + n = B → fnd (ftB S nc ln v z) n i = fnd (ftB S nc ln v z) B 0 → mm_Ev mm_T0 X (d + 30) 98 78 [.ref 0, .int (nI s), .int 1, .ref (80 + 2 * s), .int z, .int 0, .int (nI i)] [] J (mm_pi P) := by
  have t0 := tCV
  intro n
  induction n with
  | zero =>
    intro i hi he
    have e : i = B := by omega
    subst e
    refine ev_ild6 k98_78 ?_
    refine ev_iconst k98_80 ?_
    refine ev_ald0 k98_81 ?_
    refine ev_getr k98_82 (by first | assumption | rfl) rfl rfl rfl ?_
    refine ev_gfv (j := 1) k98_85 (by first | assumption | rfl) rfl rfl rfl rfl c1 ?_
    refine ev_ishl k98_88 ?_
    rw [hB]
    refine ev_jcmp_ge k98_89 (fun h89 => ?_) (fun h89 => absurd h89 (nI_nlt (Nat.le_refl _) (by omega)))
    refine ev_ild2 k98_129 ?_
    refine ev_iconst k98_130 ?_
    refine ev_icmp_ne k98_131 (fun h131 => absurd rfl h131) (fun h131 => ?_)
    refine ev_ald0 k98_134 ?_
    refine ev_ldc k98_135 ?_
    refine ev_cV2i k98_137 cs_174 (by first | assumption | rfl) (by omega) (Nat.le_of_ble_eq_true rfl) rfl rfl rfl ?_
    refine sp_error (k := 2) (by decide) (by decide) (by decide) ?_
    refine ev_goto k98_140 ?_
    refine ev_ri k98_145 rfl ?_
    rw [← he] at hQ
    exact hQ
  | succ n ih =>
    intro i hi he
    have hlt : i < B := by omega
    refine ev_ild6 k98_78 ?_
    refine ev_iconst k98_80 ?_
    refine ev_ald0 k98_81 ?_
    refine ev_getr k98_82 (by first | assumption | rfl) rfl rfl rfl ?_
    refine ev_gfv (j := 1) k98_85 (by first | assumption | rfl) rfl rfl rfl rfl c1 ?_
    refine ev_ishl k98_88 ?_
    rw [hB]
    refine ev_jcmp_ge k98_89 (fun h89 => absurd (nI_lt hlt (by omega)) h89) (fun h89 => ?_)
    refine ev_ild6 k98_92 ?_
    refine ev_cS1i k98_94 cs_198 rfl rfl rfl ?_
    refine sp_bitCount ?_
    refine ev_ild4 k98_97 ?_
    refine ev_icmp_ne k98_99 (fun h99 => ?_) (fun h99 => ?_)
    ·
      refine ev_inc6 k98_123 rfl ?_
      refine ev_goto k98_126 ?_
      have b : ftB S nc ln v z i = false := by unfold ftB; rw [decide_eq_false h99]; rfl
      have e : fnd (ftB S nc ln v z) (n + 1) i = fnd (ftB S nc ln v z) n (i + 1) := if_neg (by rw [b]; decide)
      rw [nI_1]
      exact ih (i + 1) (by omega) (e.symm.trans he)
    ·
      refine ev_ald0 k98_102 ?_
      refine ev_ald3 k98_103 ?_
      refine ev_ild6 k98_104 ?_
      refine ev_cV3i k98_106 cs_207 (by first | assumption | rfl) (by omega) (Nat.le_of_ble_eq_true rfl) rfl rfl rfl ?_
      refine sp_allWent c1 n6 ok2 hs4 hln c3 hv hw ?_
      refine ev_ifz_eq k98_109 (fun h109 => ?_) (fun h109 => ?_)
      ·
        refine ev_inc6 k98_123 rfl ?_
        refine ev_goto k98_126 ?_
        have b : ftB S nc ln v z i = false := by unfold ftB; rw [decide_eq_true h99, h109]; rfl
        have e : fnd (ftB S nc ln v z) (n + 1) i = fnd (ftB S nc ln v z) n (i + 1) := if_neg (by rw [b]; decide)
        rw [nI_1]
        exact ih (i + 1) (by omega) (e.symm.trans he)
      ·
        refine ev_ild2 k98_112 ?_
        refine ev_iconst k98_113 ?_
        refine ev_icmp_ne k98_114 (fun h114 => absurd rfl h114) (fun h114 => ?_)
        refine ev_ild6 k98_117 ?_
        refine ev_ri k98_119 rfl ?_
        have b : ftB S nc ln v z i = true := by unfold ftB; rw [decide_eq_true h99, h109]; rfl
        have e : fnd (ftB S nc ln v z) (n + 1) i = some i := if_pos b
        rw [e] at he
        rw [← he] at hQ
        exact hQ
theorem lm_isFit0 {X : Nat × (Nat → Int32)} {d : Nat} {J : mm_I} {s ln : Nat} {x i : Int32} {P : Int32 → mm_I → Prop} (hs4 : s < 4) (d2 : J 102 s = nI ln) (hQ : P 0 J) : mm_Ev mm_T0 X d 208 23 [.ref 91, .int (nI s), .int x, .int 0, .int i] [] J (mm_pi P) := by
  have tm := tM
  have tr := tR
  have q1 := t101
  have q2 := t102
  have q3 := t103
  refine ev_ild4 k208_23 ?_
  refine ev_ald0 k208_25 ?_
  refine ev_getr k208_26 (by first | assumption | rfl) rfl rfl rfl ?_
  refine ev_ild1 k208_29 ?_
  refine ev_ialv (j := s) k208_30 (by first | assumption | rfl) (by omega) (nI_clamp (by omega)) (vp_in_nI (show s < 4 by omega) (by decide)) d2 ?_
  refine ev_jcmp_ge k208_31 (fun h31 => ?_) (fun h31 => ?_)
  ·
    refine ev_ild3 k208_72 ?_
    refine ev_rz k208_73 rfl (by first | exact bI01 _ | exact Or.inl rfl | exact Or.inr rfl | assumption) ?_
    exact hQ
  ·
    refine ev_ild3 k208_34 ?_
    refine ev_if_eq k208_35 (fun h35 => ?_) (fun h35 => absurd rfl h35)
    refine ev_ild3 k208_72 ?_
    refine ev_rz k208_73 rfl (by first | exact bI01 _ | exact Or.inl rfl | exact Or.inr rfl | assumption) ?_
    exact hQ
theorem lm_isFit {X : Nat × (Nat → Int32)} {d : Nat} {I S : mm_I} {nc np s ln x : Nat} {v : Nat → Int32} {P : Int32 → mm_I → Prop} (rm : RM S I nc np) (ok : hOK S 0 nc) (sr : sR S nc np) (tt : TR S I) (hs4 : s < 4) (hln : ln ≤ 40) (d2 : I 102 s = nI ln) (d4 : ∀ j, j < 40 → I 103 (40 * s + j) = v j) (hQ : ∀ J, sc I J → P (bI (fnd (ftG S nc v x) ln 0).isNone) J) : ∀ (n i : Nat) (J : mm_I), i + n = ln → (sc I J ∧ fnd (ftG S nc v x) n i = fnd (ftG S nc v x) ln 0) → mm_Ev mm_T0 X (d + 20) 208 23 [.ref 91, .int (nI s), .int (nI x), .int 1, .int (nI i)] [] J (mm_pi P) := by
  have tm := tM
  have tr := tR
  have q1 := t101
  have q2 := t102
  have q3 := t103
  intro n
  induction n with
  | zero =>
    intro i J hi hv
    have e : i = ln := by omega
    subst e
    refine ev_ild4 k208_23 ?_
    refine ev_ald0 k208_25 ?_
    refine ev_getr k208_26 (by first | assumption | rfl) rfl rfl rfl ?_
    refine ev_ild1 k208_29 ?_
    refine ev_ialv (j := s) k208_30 (by first | assumption | rfl) (by omega) (nI_clamp (by omega)) (vp_in_nI (show s < 4 by omega) (by decide)) ((congrFun (hv.1 102 (by decide) (by decide)) s).trans d2) ?_
    refine ev_jcmp_ge k208_31 (fun h31 => ?_) (fun h31 => absurd h31 (nI_nlt (Nat.le_refl _) (by omega)))
    refine ev_ild3 k208_72 ?_
    refine ev_rz k208_73 rfl (by first | exact bI01 _ | exact Or.inl rfl | exact Or.inr rfl | assumption) ?_
    have z := hQ J hv.1
    rw [← hv.2] at z
    exact z
  | succ n ih =>
    intro i J hi hv
    have hlt : i < ln := by omega
    refine ev_ild4 k208_23 ?_
    refine ev_ald0 k208_25 ?_
    refine ev_getr k208_26 (by first | assumption | rfl) rfl rfl rfl ?_
    refine ev_ild1 k208_29 ?_
    refine ev_ialv (j := s) k208_30 (by first | assumption | rfl) (by omega) (nI_clamp (by omega)) (vp_in_nI (show s < 4 by omega) (by decide)) ((congrFun (hv.1 102 (by decide) (by decide)) s).trans d2) ?_
    refine ev_jcmp_ge k208_31 (fun h31 => absurd (nI_lt hlt (by omega)) h31) (fun h31 => ?_)
    refine ev_ild3 k208_34 ?_
    refine ev_if_eq k208_35 (fun h35 => absurd h35 (by decide)) (fun h35 => ?_)
    refine ev_ald0 k208_38 ?_
    refine ev_ild4 k208_39 ?_
    refine ev_ild2 k208_41 ?_
    refine ev_cV3i k208_42 cs_236 (by first | assumption | rfl) (by omega) (Nat.le_of_ble_eq_true rfl) rfl rfl rfl ?_
    refine sm_marginOf (RM_congr (hv.1 92 (by decide) (by decide)) rm) ok sr (TR_congr (hv.1 92 (by decide) (by decide)) tt) (fun K hK => ?_)
    rw [show hMv S 0 nc (hWt S 0) (nI i) (nI x) = mgS S nc i x from rfl]
    refine ev_ald0 k208_45 ?_
    refine ev_getr k208_46 (by first | assumption | rfl) rfl rfl rfl ?_
    refine ev_bipush k208_49 ?_
    refine ev_ild1 k208_51 ?_
    refine ev_imul k208_52 ?_
    refine ev_ild4 k208_53 ?_
    refine ev_iadd k208_55 ?_
    rw [idxC]
    refine ev_ialv (j := (40 * s + i)) k208_56 (by first | assumption | rfl) (by omega) (nI_clamp (by omega)) (vp_in_nI (show 40 * s + i < 160 by omega) (by omega)) ((congrFun ((hK 103 (by decide) (by decide)).trans (hv.1 103 (by decide) (by decide))) _).trans (d4 i (by omega))) ?_
    refine ev_icmp_ne k208_57 (fun h57 => ?_) (fun h57 => ?_)
    ·
      refine ev_iconst k208_64 ?_
      refine ev_ist3 k208_65 rfl ?_
      refine ev_inc4 k208_66 rfl ?_
      refine ev_goto k208_69 ?_
      have e : fnd (ftG S nc v x) (n + 1) i = some i := if_pos (show ftG S nc v x i = true from by unfold ftG; rw [decide_eq_false h57]; rfl)
      have z := hQ K (sc_tr hv.1 hK)
      rw [← hv.2, e] at z
      exact lm_isFit0 hs4 ((congrFun ((hK 102 (by decide) (by decide)).trans (hv.1 102 (by decide) (by decide))) s).trans d2) z
    ·
      refine ev_iconst k208_60 ?_
      refine ev_goto k208_61 ?_
      refine ev_ist3 k208_65 rfl ?_
      refine ev_inc4 k208_66 rfl ?_
      refine ev_goto k208_69 ?_
      have e : fnd (ftG S nc v x) (n + 1) i = fnd (ftG S nc v x) n (i + 1) := if_neg (show ¬ ftG S nc v x i = true from by unfold ftG; rw [decide_eq_true h57]; decide)
      rw [nI_1]
      exact ih (i + 1) K (by omega) ⟨sc_tr hv.1 hK, e.symm.trans hv.2⟩
/-- Model.isFit -/
theorem sm_isFit {X : Nat × (Nat → Int32)} {d : Nat} {I : mm_I} {S : mm_I} {nc np s ln x : Nat} {v : Nat → Int32} {P : Int32 → mm_I → Prop} (rm : RM S I nc np) (ok : hOK S 0 nc) (sr : sR S nc np) (tt : TR S I) (hs4 : s < 4) (hx : x < 64) (hln : ln ≤ 40) (d2 : I 102 s = nI ln) (d4 : ∀ j, j < 40 → I 103 (40 * s + j) = v j) (hQ : ∀ J, sc I J → P (bI (ftB S nc ln v (bc (hTk S 0 np)) x)) J) : mm_Ev mm_T0 X (d + 20) 208 0 (mm_ent 208 [.ref 91, .int (nI s), .int (nI x)]) [] I (mm_pi P) := by
  show mm_Ev mm_T0 X (d + 20) 208 0 [.ref 91, .int (nI s), .int (nI x), .retAddr 0, .retAddr 0] [] I (mm_pi P)
  have tm := tM
  have tr := tR
  have q1 := t101
  have q2 := t102
  have q3 := t103
  refine ev_ild2 k208_0 ?_
  refine ev_cS1i k208_1 cs_228 rfl rfl rfl ?_
  refine sm_bits (k := x) rfl (by omega) ?_
  refine ev_ald0 k208_4 ?_
  refine ev_cV1i k208_5 cs_235 (by first | assumption | rfl) (by omega) (Nat.le_of_ble_eq_true rfl) rfl rfl rfl ?_
  refine sm_taken rm sr ?_
  refine ev_cS1i k208_8 cs_228 rfl rfl rfl ?_
  obtain ⟨y, y1, y2, -⟩ := hTk_set rm.1.2.1 (wf_at sr)
  refine sm_bits (k := y) y2 (by omega) ?_
  refine ev_icmp_ne k208_11 (fun h11 => ?_) (fun h11 => ?_)
  ·
    refine ev_iconst k208_18 ?_
    refine ev_ist3 k208_19 rfl ?_
    refine ev_iconst k208_20 ?_
    refine ev_ist4 k208_21 rfl ?_
    refine lm_isFit0 hs4 d2 ?_
    have b : ftB S nc ln v (bc (hTk S 0 np)) x = false := by unfold ftB; rw [decide_eq_false h11]; rfl
    have z := hQ I (sc_rf I)
    rw [b] at z
    exact z
  ·
    refine ev_iconst k208_14 ?_
    refine ev_goto k208_15 ?_
    refine ev_ist3 k208_19 rfl ?_
    refine ev_iconst k208_20 ?_
    refine ev_ist4 k208_21 rfl ?_
    have b : ftB S nc ln v (bc (hTk S 0 np)) x = (fnd (ftG S nc v x) ln 0).isNone := by unfold ftB; rw [decide_eq_true h11]; rfl
    rw [b] at hQ
    exact lm_isFit rm ok sr tt hs4 hln d2 d4 hQ ln 0 I (by omega) ⟨sc_rf I, rfl⟩
theorem lm_fits {X : Nat × (Nat → Int32)} {d : Nat} {I S : mm_I} {nc np s ln B : Nat} {v : Nat → Int32} {b : Int32} {P : Int32 → mm_I → Prop} (rm : RM S I nc np) (ok : hOK S 0 nc) (sr : sR S nc np) (tt : TR S I) (hs4 : s < 4) (hln : ln ≤ 40) (d2 : I 102 s = nI ln) (d4 : ∀ j, j < 40 → I 103 (40 * s + j) = v j) (hB64 : B ≤ 64) (hQ : ∀ J, sc I J → mm_Ev mm_T0 X (d + 30) 209 95 [.ref 91, .int (nI s), .int b, .int (nI (cn (ftB S nc ln v (bc (hTk S 0 np))) B 0)), .int (fsR (fnd (ftB S nc ln v (bc (hTk S 0 np))) B 0)), .int (nI 0 + (-1))] [] J (mm_pi P)) : ∀ (n : Nat) (J : mm_I), n ≤ B → sc I J → mm_Ev mm_T0 X (d + 30) 209 67 [.ref 91, .int (nI s), .int b, .int (nI (cn (ftB S nc ln v (bc (hTk S 0 np))) (B - n) n)), .int (fsR (fnd (ftB S nc ln v (bc (hTk S 0 np))) (B - n) n)), .int (nI n + (-1))] [] J (mm_pi P) := by
  have tm := tM
  have tr := tR
  have q1 := t101
  have q2 := t102
  have q3 := t103
  intro n
  induction n with
  | zero =>
    intro J hn hv
    refine ev_ild5 k209_67 ?_
    refine ev_if_lt k209_69 (fun h69 => ?_) (fun h69 => absurd (show nI 0 + (-1) < (0 : Int32) by decide) h69)
    exact hQ J hv
  | succ n ih =>
    intro J hn hv
    refine ev_ild5 k209_67 ?_
    rw [pk_m1]
    refine ev_if_lt k209_69 (fun h69 => absurd h69 (nI_pos (by omega))) (fun h69 => ?_)
    refine ev_ald0 k209_72 ?_
    refine ev_ild1 k209_73 ?_
    refine ev_ild5 k209_74 ?_
    refine ev_cV3i k209_76 cs_274 (by first | assumption | rfl) (by omega) (Nat.le_of_ble_eq_true rfl) rfl rfl rfl ?_
    refine sm_isFit (RM_congr (hv 92 (by decide) (by decide)) rm) ok sr (TR_congr (hv 92 (by decide) (by decide)) tt) hs4 (show n < 64 by omega) hln ((congrFun (hv 102 (by decide) (by decide)) s).trans d2) (fun j hj => (congrFun (hv 103 (by decide) (by decide)) _).trans (d4 j hj)) (fun K hK => ?_)
    refine ev_ifz_eq k209_79 (fun h79 => ?_) (fun h79 => ?_)
    ·
      refine ev_inc5 k209_89 rfl ?_
      refine ev_goto k209_92 ?_
      have ec : cn (ftB S nc ln v (bc (hTk S 0 np))) (B - n) n = (if ftB S nc ln v (bc (hTk S 0 np)) n = true then 1 else 0) + cn (ftB S nc ln v (bc (hTk S 0 np))) (B - (n + 1)) (n + 1) := by
        rw [show B - n = B - (n + 1) + 1 by omega]
        rfl
      have ef : fnd (ftB S nc ln v (bc (hTk S 0 np))) (B - n) n = if ftB S nc ln v (bc (hTk S 0 np)) n = true then some n else fnd (ftB S nc ln v (bc (hTk S 0 np))) (B - (n + 1)) (n + 1) := by
        rw [show B - n = B - (n + 1) + 1 by omega]
        rfl
      have z := ih K (by omega) (sc_tr hv hK)
      rw [ec, ef, if_neg (by rw [h79]; decide), if_neg (by rw [h79]; decide), Nat.zero_add] at z
      exact z
    ·
      refine ev_inc3 k209_82 rfl ?_
      refine ev_ild5 k209_85 ?_
      refine ev_ist4 k209_87 rfl ?_
      refine ev_inc5 k209_89 rfl ?_
      refine ev_goto k209_92 ?_
      have ec : cn (ftB S nc ln v (bc (hTk S 0 np))) (B - n) n = (if ftB S nc ln v (bc (hTk S 0 np)) n = true then 1 else 0) + cn (ftB S nc ln v (bc (hTk S 0 np))) (B - (n + 1)) (n + 1) := by
        rw [show B - n = B - (n + 1) + 1 by omega]
        rfl
      have ef : fnd (ftB S nc ln v (bc (hTk S 0 np))) (B - n) n = if ftB S nc ln v (bc (hTk S 0 np)) n = true then some n else fnd (ftB S nc ln v (bc (hTk S 0 np))) (B - (n + 1)) (n + 1) := by
        rw [show B - n = B - (n + 1) + 1 by omega]
        rfl
      have z := ih K (by omega) (sc_tr hv hK)
      rw [ec, ef, if_pos h79, if_pos h79, Nat.add_comm 1, ← nI_1] at z
      exact z
theorem lm_fitsB {X : Nat × (Nat → Int32)} {d : Nat} {I S : mm_I} {nc np s ln B : Nat} {v : Nat → Int32} {b : Int32} {P : Int32 → mm_I → Prop} (rm : RM S I nc np) (ok : hOK S 0 nc) (sr : sR S nc np) (tt : TR S I) (hs4 : s < 4) (hln : ln ≤ 40) (d2 : I 102 s = nI ln) (d4 : ∀ j, j < 40 → I 103 (40 * s + j) = v j) (hB64 : B ≤ 64) (hQ : ∀ J, sc I J → mm_Ev mm_T0 X (d + 30) 209 95 [.ref 91, .int (nI s), .int b, .int (nI (cn (ftB S nc ln v (bc (hTk S 0 np))) B 0)), .int (fsR (fnd (ftB S nc ln v (bc (hTk S 0 np))) B 0)), .int (nI 0 + (-1))] [] J (mm_pi P)) : mm_Ev mm_T0 X (d + 30) 209 67 [.ref 91, .int (nI s), .int b, .int 0, .int (-1), .int (nI B + (-1))] [] I (mm_pi P) := by
  have z := lm_fits rm ok sr tt hs4 hln d2 d4 hB64 hQ B I (Nat.le_refl _) (sc_rf I)
  rw [Nat.sub_self] at z
  exact z
theorem sc_up95 {A K : mm_I} {k : Nat} (h : sc A K) : sc (mm_up A 95 k (A 95 k + 1)) (mm_up K 95 k (K 95 k + 1)) := fun q a b => by
  have e := h 95 (by decide) (by decide)
  by_cases z : q = 95
  · rw [z]; funext j; rw [mm_up_at, mm_up_at, e]
  · rw [mm_up_ne _ _ _ _ _ z, mm_up_ne _ _ _ _ _ z]; exact h q a b
/-- CV.fits -/
theorem op_fits {X : Nat × (Nat → Int32)} {d : Nat} {I : mm_I} {P : Int32 → mm_I → Prop} {a : Int32} {b : Int32} (inv : Inv I) (hQ : ∀ v J, mm_Ev mm_T0 X (d + 60) 209 0 (mm_ent 209 [.ref 91, .int a, .int b]) [] J (mm_pi fun w K => w = v ∧ Inv K) → P v J) : mm_Ev mm_T0 X (d + 60) 98 0 (mm_ent 98 [.ref 0, .int a, .int b]) [] I (mm_pi P) := by
  show mm_Ev mm_T0 X (d + 60) 98 0 [.ref 0, .int a, .int b, .retAddr 0, .retAddr 0, .retAddr 0, .retAddr 0] [] I (mm_pi P)
  obtain ⟨nc, np, hs⟩ := inv.1
  obtain ⟨c1, n6, p1, p6, rc, rp, rm, ok, sr, tt⟩ := hsF hs
  have t0 := tCV
  have tm := tM
  have tr := tR
  have q1 := t101
  have q2 := t102
  have q3 := t103
  refine ev_ild1 k98_0 ?_
  refine ev_cS1i k98_1 cs_206 rfl rfl rfl ?_
  refine sp_isSheet ?_
  refine ev_ifz_eq k98_4 (fun h4 => ?_) (fun h4 => ?_)
  ·
    refine ev_ald0 k98_16 ?_
    refine ev_ldc k98_17 ?_
    refine ev_cV2i k98_19 cs_174 (by first | assumption | rfl) (by omega) (Nat.le_of_ble_eq_true rfl) rfl rfl rfl ?_
    refine sp_error (k := 1) (by decide) (by decide) (by decide) ?_
    refine ev_ri k98_22 rfl ?_
    refine hQ _ _ ?_
    show mm_Ev mm_T0 X (d + 60) 209 0 [.ref 91, .int _, .int _, .retAddr 0, .retAddr 0, .retAddr 0] [] _ (mm_pi _)
    refine ev_ild1 k209_0 ?_
    refine ev_cS1i k209_1 cs_273 rfl rfl rfl ?_
    refine sm_isSheet ?_
    refine ev_ifz_eq k209_4 (fun g4 => ?_) (fun g4 => Bool.noConfusion (Eq.trans (Eq.symm h4) g4))
    refine ev_ald0 k209_16 ?_
    refine ev_ldc k209_17 ?_
    refine ev_cV2i k209_19 cs_238 (by first | assumption | rfl) (by omega) (Nat.le_of_ble_eq_true rfl) rfl rfl rfl ?_
    refine sm_error (k := 1) (by decide) (by decide) ?_
    refine ev_ri k209_22 rfl ?_
    first | exact ⟨rfl, Inv_e rfl rfl inv⟩ | exact ⟨rfl, inv⟩
  ·
    obtain ⟨s, hs4, rfl⟩ := wB_le (hi := 3) (by omega) h4
    replace hs4 : s < 4 := by omega
    obtain ⟨ln, bn, hln, hbn, e1, e2, e3, e4, e5⟩ := inv.2.2.2.2.1 s hs4
    have ts0 := tS0 hs4
    have ts1 := tS1 hs4
    refine ev_ild2 k98_7 ?_
    refine ev_iconst k98_8 ?_
    refine ev_iconst k98_9 ?_
    refine ev_cS3i k98_10 cs_179 rfl rfl rfl ?_
    refine sp_isWithin ?_
    refine ev_ifz_ne k98_13 (fun h13 => ?_) (fun h13 => ?_)
    ·
      refine ev_ald0 k98_23 ?_
      refine ev_getr k98_24 (by first | assumption | rfl) rfl rfl rfl ?_
      refine ev_ild1 k98_27 ?_
      refine ev_aaload k98_28 (by first | assumption | rfl) (by decide) (vp_in_nI (show s < 4 by omega) (by decide)) (tSa hs4) ?_
      refine ev_ast3 k98_29 rfl ?_
      refine ev_ald3 k98_30 ?_
      refine ev_gfv (j := 1) k98_31 (by first | assumption | rfl) rfl rfl rfl rfl e1 ?_
      refine ev_if_eq k98_34 (fun h34 => ?_) (fun h34 => ?_)
      ·
        refine ev_ald0 k98_46 ?_
        refine ev_ldc k98_47 ?_
        refine ev_cV2i k98_49 cs_174 (by first | assumption | rfl) (by omega) (Nat.le_of_ble_eq_true rfl) rfl rfl rfl ?_
        refine sp_error (k := 2) (by decide) (by decide) (by decide) ?_
        refine ev_ri k98_52 rfl ?_
        refine hQ _ _ ?_
        show mm_Ev mm_T0 X (d + 60) 209 0 [.ref 91, .int _, .int _, .retAddr 0, .retAddr 0, .retAddr 0] [] _ (mm_pi _)
        refine ev_ild1 k209_0 ?_
        refine ev_cS1i k209_1 cs_273 rfl rfl rfl ?_
        refine sm_isSheet ?_
        refine ev_ifz_eq k209_4 (fun g4 => Bool.noConfusion (Eq.trans (Eq.symm h4) g4)) (fun g4 => ?_)
        refine ev_ild2 k209_7 ?_
        refine ev_iconst k209_8 ?_
        refine ev_iconst k209_9 ?_
        refine ev_cS3i k209_10 cs_224 rfl rfl rfl ?_
        refine sp_in ?_
        refine ev_ifz_ne k209_13 (fun g13 => ?_) (fun g13 => Bool.noConfusion (Eq.trans (Eq.symm h13) g13))
        refine ev_ald0 k209_23 ?_
        refine ev_getr k209_24 (by first | assumption | rfl) rfl rfl rfl ?_
        refine ev_ild1 k209_27 ?_
        refine ev_ialv (j := s) k209_28 (by first | assumption | rfl) (by omega) (nI_clamp (by omega)) (vp_in_nI (show s < 4 by omega) (by decide)) e2 ?_
        refine ev_if_eq k209_29 (fun g29 => ?_) (fun g29 => absurd h34 g29)
        refine ev_ald0 k209_43 ?_
        refine ev_ldc k209_44 ?_
        refine ev_cV2i k209_46 cs_238 (by first | assumption | rfl) (by omega) (Nat.le_of_ble_eq_true rfl) rfl rfl rfl ?_
        refine sm_error (k := 2) (by decide) (by decide) ?_
        refine ev_ri k209_49 rfl ?_
        first | exact ⟨rfl, Inv_e rfl rfl inv⟩ | exact ⟨rfl, inv⟩
      ·
        refine ev_ald3 k98_37 ?_
        refine ev_gfv (j := 2) k98_38 (by first | assumption | rfl) rfl rfl rfl rfl e3 ?_
        refine ev_bipush k98_41 ?_
        refine ev_jcmp_le k98_43 (fun h43 => ?_) (fun h43 => ?_)
        ·
          obtain ⟨w, hw1, rfl⟩ := wB_le (hi := 1) (by omega) h13
          rcases (show w = 0 ∨ w = 1 by omega) with rfl | rfl
          ·
            refine ev_ald0 k98_53 ?_
            refine ev_getr k98_54 (by first | assumption | rfl) rfl rfl rfl ?_
            refine ev_cV1v k98_57 cs_192 (by first | assumption | rfl) (by omega) (Nat.le_of_ble_eq_true rfl) rfl rfl rfl ?_
            refine sp_weighAll hh11 ok (fun g => ?_)
            have inv2 : Inv (hWI I 11 nc g) := Inv_W inv
            have ok2 : ∀ c, c < nc → hWI I 11 nc g (11 + 1) c = nI (hK (hWI I 11 nc g) 11 c) ∧ hK (hWI I 11 nc g) 11 c < 7 := ok.2.2.1
            refine ev_ald0 k98_60 ?_
            refine ev_getr k98_61 (by first | assumption | rfl) rfl rfl rfl ?_
            refine ev_cV1i k98_64 cs_194 (by first | assumption | rfl) (by omega) (Nat.le_of_ble_eq_true rfl) rfl rfl rfl ?_
            refine sp_taken (I := hWI I 11 nc g) hh11 (np := np) p1 p6 ?_
            refine ev_cS1i k98_67 cs_198 rfl rfl rfl ?_
            refine sp_bitCount ?_
            refine ev_ist4 k98_70 rfl ?_
            refine ev_iconst k98_72 ?_
            refine ev_ist5 k98_73 rfl ?_
            refine ev_iconst k98_75 ?_
            refine ev_ist6 k98_76 rfl ?_
            obtain ⟨B, hB0, hB64, hB⟩ := shl6 n6
            have e5w : (hWI I 11 nc g) (80 + 2 * s + 1) = I (80 + 2 * s + 1) := hWI_ne (by omega) (by omega)
            refine lp_fits0 (J := hWI I 11 nc g) (S := cells I 11) (nc := nc) (v := I (80 + 2 * s + 1)) (z := bc (hTk (cells I 11) 0 np)) c1 n6 ok2 hs4 hln ((congrFun (hWI_ne (by omega) (by omega)) 2).trans e3) e5w (fun b t => mgW b t) hB hB64 ?_ B 0 0 (by omega) (by rw [Nat.zero_add])
            refine hQ _ _ ?_
            show mm_Ev mm_T0 X (d + 60) 209 0 [.ref 91, .int _, .int _, .retAddr 0, .retAddr 0, .retAddr 0] [] _ (mm_pi _)
            refine ev_ild1 k209_0 ?_
            refine ev_cS1i k209_1 cs_273 rfl rfl rfl ?_
            refine sm_isSheet ?_
            refine ev_ifz_eq k209_4 (fun g4 => Bool.noConfusion (Eq.trans (Eq.symm h4) g4)) (fun g4 => ?_)
            refine ev_ild2 k209_7 ?_
            refine ev_iconst k209_8 ?_
            refine ev_iconst k209_9 ?_
            refine ev_cS3i k209_10 cs_224 rfl rfl rfl ?_
            refine sp_in ?_
            refine ev_ifz_ne k209_13 (fun g13 => ?_) (fun g13 => Bool.noConfusion (Eq.trans (Eq.symm h13) g13))
            refine ev_ald0 k209_23 ?_
            refine ev_getr k209_24 (by first | assumption | rfl) rfl rfl rfl ?_
            refine ev_ild1 k209_27 ?_
            refine ev_ialv (j := s) k209_28 (by first | assumption | rfl) (by omega) (nI_clamp (by omega)) (vp_in_nI (show s < 4 by omega) (by decide)) ((congrFun (hWI_ne (by omega) (by omega)) s).trans e2) ?_
            refine ev_if_eq k209_29 (fun g29 => absurd g29 h34) (fun g29 => ?_)
            refine ev_ald0 k209_32 ?_
            refine ev_getr k209_33 (by first | assumption | rfl) rfl rfl rfl ?_
            refine ev_ild1 k209_36 ?_
            refine ev_ialv (j := s) k209_37 (by first | assumption | rfl) (by omega) (nI_clamp (by omega)) (vp_in_nI (show s < 4 by omega) (by decide)) ((congrFun (hWI_ne (by omega) (by omega)) s).trans e4) ?_
            refine ev_bipush k209_38 ?_
            refine ev_jcmp_le k209_40 (fun g40 => ?_) (fun g40 => absurd g40 h43)
            refine ev_iconst k209_50 ?_
            refine ev_ist3 k209_51 rfl ?_
            refine ev_iconst k209_52 ?_
            refine ev_ist4 k209_53 rfl ?_
            refine ev_iconst k209_55 ?_
            refine ev_ald0 k209_56 ?_
            refine ev_getr k209_57 (by first | assumption | rfl) rfl rfl rfl ?_
            refine ev_iconst k209_60 ?_
            refine ev_ialv (j := 2) k209_61 (by first | assumption | rfl) (by omega) rfl (vp_dec rfl) ((congrFun (hWI_ne (by omega) (by omega)) 2).trans rc) ?_
            refine ev_ishl k209_62 ?_
            rw [hB]
            refine ev_iconst k209_63 ?_
            refine ev_isub k209_64 ?_
            rw [show nI B - 1 = nI B + (-1) from Int32.sub_eq_add_neg _ _]
            refine ev_ist5 k209_65 rfl ?_
            refine lm_fitsB (S := cells I 11) (nc := nc) (np := np) (s := s) (ln := ln) (B := B) (v := I (80 + 2 * s + 1)) (RM_congr (hWI_ne (by omega) (by omega)) rm) ok sr (TR_congr (hWI_ne (by omega) (by omega)) tt) hs4 hln ((congrFun (hWI_ne (by omega) (by omega)) s).trans e4) (fun j hj => (congrFun (hWI_ne (by omega) (by omega)) _).trans ((e5 j hj).symm.trans (by rw [show 81 + 2 * s = 80 + 2 * s + 1 by omega]))) hB64 (fun K hK => ?_)
            refine ev_ild2 k209_95 ?_
            refine ev_if_ne k209_96 (fun g96 => absurd rfl g96) (fun g96 => ?_)
            refine ev_ild3 k209_99 ?_
            refine ev_goto k209_100 ?_
            refine ev_ri k209_119 rfl ?_
            exact ⟨rfl, Inv_sc inv2 hK⟩
          ·
            refine ev_ald0 k98_53 ?_
            refine ev_getr k98_54 (by first | assumption | rfl) rfl rfl rfl ?_
            refine ev_cV1v k98_57 cs_192 (by first | assumption | rfl) (by omega) (Nat.le_of_ble_eq_true rfl) rfl rfl rfl ?_
            refine sp_weighAll hh11 ok (fun g => ?_)
            have inv2 : Inv (hWI I 11 nc g) := Inv_W inv
            have ok2 : ∀ c, c < nc → hWI I 11 nc g (11 + 1) c = nI (hK (hWI I 11 nc g) 11 c) ∧ hK (hWI I 11 nc g) 11 c < 7 := ok.2.2.1
            refine ev_ald0 k98_60 ?_
            refine ev_getr k98_61 (by first | assumption | rfl) rfl rfl rfl ?_
            refine ev_cV1i k98_64 cs_194 (by first | assumption | rfl) (by omega) (Nat.le_of_ble_eq_true rfl) rfl rfl rfl ?_
            refine sp_taken (I := hWI I 11 nc g) hh11 (np := np) p1 p6 ?_
            refine ev_cS1i k98_67 cs_198 rfl rfl rfl ?_
            refine sp_bitCount ?_
            refine ev_ist4 k98_70 rfl ?_
            refine ev_iconst k98_72 ?_
            refine ev_ist5 k98_73 rfl ?_
            refine ev_iconst k98_75 ?_
            refine ev_ist6 k98_76 rfl ?_
            obtain ⟨B, hB0, hB64, hB⟩ := shl6 n6
            have e5w : (hWI I 11 nc g) (80 + 2 * s + 1) = I (80 + 2 * s + 1) := hWI_ne (by omega) (by omega)
            refine lp_fits1 (J := hWI I 11 nc g) (S := cells I 11) (nc := nc) (v := I (80 + 2 * s + 1)) (z := bc (hTk (cells I 11) 0 np)) c1 n6 ok2 hs4 hln ((congrFun (hWI_ne (by omega) (by omega)) 2).trans e3) e5w (fun b t => mgW b t) hB hB64 ?_ B 0 (by omega) rfl
            refine hQ _ _ ?_
            show mm_Ev mm_T0 X (d + 60) 209 0 [.ref 91, .int _, .int _, .retAddr 0, .retAddr 0, .retAddr 0] [] _ (mm_pi _)
            refine ev_ild1 k209_0 ?_
            refine ev_cS1i k209_1 cs_273 rfl rfl rfl ?_
            refine sm_isSheet ?_
            refine ev_ifz_eq k209_4 (fun g4 => Bool.noConfusion (Eq.trans (Eq.symm h4) g4)) (fun g4 => ?_)
            refine ev_ild2 k209_7 ?_
            refine ev_iconst k209_8 ?_
            refine ev_iconst k209_9 ?_
            refine ev_cS3i k209_10 cs_224 rfl rfl rfl ?_
            refine sp_in ?_
            refine ev_ifz_ne k209_13 (fun g13 => ?_) (fun g13 => Bool.noConfusion (Eq.trans (Eq.symm h13) g13))
            refine ev_ald0 k209_23 ?_
            refine ev_getr k209_24 (by first | assumption | rfl) rfl rfl rfl ?_
            refine ev_ild1 k209_27 ?_
            refine ev_ialv (j := s) k209_28 (by first | assumption | rfl) (by omega) (nI_clamp (by omega)) (vp_in_nI (show s < 4 by omega) (by decide)) ((congrFun ((wnS_ne (by decide)).trans (hWI_ne (by omega) (by omega))) s).trans e2) ?_
            refine ev_if_eq k209_29 (fun g29 => absurd g29 h34) (fun g29 => ?_)
            refine ev_ald0 k209_32 ?_
            refine ev_getr k209_33 (by first | assumption | rfl) rfl rfl rfl ?_
            refine ev_ild1 k209_36 ?_
            refine ev_ialv (j := s) k209_37 (by first | assumption | rfl) (by omega) (nI_clamp (by omega)) (vp_in_nI (show s < 4 by omega) (by decide)) ((congrFun ((wnS_ne (by decide)).trans (hWI_ne (by omega) (by omega))) s).trans e4) ?_
            refine ev_bipush k209_38 ?_
            refine ev_jcmp_le k209_40 (fun g40 => ?_) (fun g40 => absurd g40 h43)
            refine ev_iconst k209_50 ?_
            refine ev_ist3 k209_51 rfl ?_
            refine ev_iconst k209_52 ?_
            refine ev_ist4 k209_53 rfl ?_
            refine ev_iconst k209_55 ?_
            refine ev_ald0 k209_56 ?_
            refine ev_getr k209_57 (by first | assumption | rfl) rfl rfl rfl ?_
            refine ev_iconst k209_60 ?_
            refine ev_ialv (j := 2) k209_61 (by first | assumption | rfl) (by omega) rfl (vp_dec rfl) ((congrFun ((wnS_ne (by decide)).trans (hWI_ne (by omega) (by omega))) 2).trans rc) ?_
            refine ev_ishl k209_62 ?_
            rw [hB]
            refine ev_iconst k209_63 ?_
            refine ev_isub k209_64 ?_
            rw [show nI B - 1 = nI B + (-1) from Int32.sub_eq_add_neg _ _]
            refine ev_ist5 k209_65 rfl ?_
            refine lm_fitsB (S := cells I 11) (nc := nc) (np := np) (s := s) (ln := ln) (B := B) (v := I (80 + 2 * s + 1)) (RM_congr ((wnS_ne (by decide)).trans (hWI_ne (by omega) (by omega))) rm) ok sr (TR_congr ((wnS_ne (by decide)).trans (hWI_ne (by omega) (by omega))) tt) hs4 hln ((congrFun ((wnS_ne (by decide)).trans (hWI_ne (by omega) (by omega))) s).trans e4) (fun j hj => (congrFun ((wnS_ne (by decide)).trans (hWI_ne (by omega) (by omega))) _).trans ((e5 j hj).symm.trans (by rw [show 81 + 2 * s = 80 + 2 * s + 1 by omega]))) hB64 (fun K hK => ?_)
            generalize hfd : fnd (ftB (cells I 11) nc ln (I (80 + 2 * s + 1)) (bc (hTk (cells I 11) 0 np))) B 0 = fd at hK ⊢
            have hfe : ∀ m2, fd = some m2 → m2 < 64 := fun m2 z => (by have := (fnd_some (hfd.trans z)).2.1; omega)
            rcases fd with _ | m2
            ·
              refine ev_ild2 k209_95 ?_
              refine ev_if_ne k209_96 (fun g96 => ?_) (fun g96 => absurd g96 (by decide))
              refine ev_ild4 k209_103 ?_
              refine ev_jf_ge k209_105 (fun g105 => absurd (show (-1 : Int32) < 0 by decide) g105) (fun g105 => ?_)
              refine ev_ald0 k209_108 ?_
              refine ev_ldc k209_109 ?_
              refine ev_cV2i k209_111 cs_238 (by first | assumption | rfl) (by omega) (Nat.le_of_ble_eq_true rfl) rfl rfl rfl ?_
              refine sm_error (k := 2) (by decide) (by decide) ?_
              refine ev_goto k209_114 ?_
              refine ev_ri k209_119 rfl ?_
              exact ⟨rfl, Inv_sc (Inv_e rfl rfl inv2) (sc_up95 hK)⟩
            ·
              refine ev_ild2 k209_95 ?_
              refine ev_if_ne k209_96 (fun g96 => ?_) (fun g96 => absurd g96 (by decide))
              refine ev_ild4 k209_103 ?_
              refine ev_jf_ge k209_105 (fun g105 => ?_) (fun g105 => absurd (show nI m2 < 0 from g105) (nI_pos (by have := hfe m2 rfl; omega)))
              refine ev_ild4 k209_117 ?_
              refine ev_ri k209_119 rfl ?_
              exact ⟨rfl, Inv_sc inv2 hK⟩
        ·
          refine ev_ald0 k98_46 ?_
          refine ev_ldc k98_47 ?_
          refine ev_cV2i k98_49 cs_174 (by first | assumption | rfl) (by omega) (Nat.le_of_ble_eq_true rfl) rfl rfl rfl ?_
          refine sp_error (k := 2) (by decide) (by decide) (by decide) ?_
          refine ev_ri k98_52 rfl ?_
          refine hQ _ _ ?_
          show mm_Ev mm_T0 X (d + 60) 209 0 [.ref 91, .int _, .int _, .retAddr 0, .retAddr 0, .retAddr 0] [] _ (mm_pi _)
          refine ev_ild1 k209_0 ?_
          refine ev_cS1i k209_1 cs_273 rfl rfl rfl ?_
          refine sm_isSheet ?_
          refine ev_ifz_eq k209_4 (fun g4 => Bool.noConfusion (Eq.trans (Eq.symm h4) g4)) (fun g4 => ?_)
          refine ev_ild2 k209_7 ?_
          refine ev_iconst k209_8 ?_
          refine ev_iconst k209_9 ?_
          refine ev_cS3i k209_10 cs_224 rfl rfl rfl ?_
          refine sp_in ?_
          refine ev_ifz_ne k209_13 (fun g13 => ?_) (fun g13 => Bool.noConfusion (Eq.trans (Eq.symm h13) g13))
          refine ev_ald0 k209_23 ?_
          refine ev_getr k209_24 (by first | assumption | rfl) rfl rfl rfl ?_
          refine ev_ild1 k209_27 ?_
          refine ev_ialv (j := s) k209_28 (by first | assumption | rfl) (by omega) (nI_clamp (by omega)) (vp_in_nI (show s < 4 by omega) (by decide)) e2 ?_
          refine ev_if_eq k209_29 (fun g29 => absurd g29 h34) (fun g29 => ?_)
          refine ev_ald0 k209_32 ?_
          refine ev_getr k209_33 (by first | assumption | rfl) rfl rfl rfl ?_
          refine ev_ild1 k209_36 ?_
          refine ev_ialv (j := s) k209_37 (by first | assumption | rfl) (by omega) (nI_clamp (by omega)) (vp_in_nI (show s < 4 by omega) (by decide)) e4 ?_
          refine ev_bipush k209_38 ?_
          refine ev_jcmp_le k209_40 (fun g40 => absurd h43 g40) (fun g40 => ?_)
          refine ev_ald0 k209_43 ?_
          refine ev_ldc k209_44 ?_
          refine ev_cV2i k209_46 cs_238 (by first | assumption | rfl) (by omega) (Nat.le_of_ble_eq_true rfl) rfl rfl rfl ?_
          refine sm_error (k := 2) (by decide) (by decide) ?_
          refine ev_ri k209_49 rfl ?_
          first | exact ⟨rfl, Inv_e rfl rfl inv⟩ | exact ⟨rfl, inv⟩
    ·
      refine ev_ald0 k98_16 ?_
      refine ev_ldc k98_17 ?_
      refine ev_cV2i k98_19 cs_174 (by first | assumption | rfl) (by omega) (Nat.le_of_ble_eq_true rfl) rfl rfl rfl ?_
      refine sp_error (k := 1) (by decide) (by decide) (by decide) ?_
      refine ev_ri k98_22 rfl ?_
      refine hQ _ _ ?_
      show mm_Ev mm_T0 X (d + 60) 209 0 [.ref 91, .int _, .int _, .retAddr 0, .retAddr 0, .retAddr 0] [] _ (mm_pi _)
      refine ev_ild1 k209_0 ?_
      refine ev_cS1i k209_1 cs_273 rfl rfl rfl ?_
      refine sm_isSheet ?_
      refine ev_ifz_eq k209_4 (fun g4 => Bool.noConfusion (Eq.trans (Eq.symm h4) g4)) (fun g4 => ?_)
      refine ev_ild2 k209_7 ?_
      refine ev_iconst k209_8 ?_
      refine ev_iconst k209_9 ?_
      refine ev_cS3i k209_10 cs_224 rfl rfl rfl ?_
      refine sp_in ?_
      refine ev_ifz_ne k209_13 (fun g13 => Bool.noConfusion (Eq.trans (Eq.symm h13) g13)) (fun g13 => ?_)
      refine ev_ald0 k209_16 ?_
      refine ev_ldc k209_17 ?_
      refine ev_cV2i k209_19 cs_238 (by first | assumption | rfl) (by omega) (Nat.le_of_ble_eq_true rfl) rfl rfl rfl ?_
      refine sm_error (k := 1) (by decide) (by decide) ?_
      refine ev_ri k209_22 rfl ?_
      first | exact ⟨rfl, Inv_e rfl rfl inv⟩ | exact ⟨rfl, inv⟩
