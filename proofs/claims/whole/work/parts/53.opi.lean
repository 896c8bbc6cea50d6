/-! feed -/
theorem bvb (x : BitVec 64) (s : Nat) (hs : s ≤ 56) : ((x.sshiftRight s) &&& 255#64).signExtend 32 = ((x >>> s).signExtend 32) &&& 255#32 := by
  apply BitVec.eq_of_getLsbD_eq
  intro j hj
  have m1 : ∀ q : Fin 32, (255#64).getLsbD q.val = decide (q.val < 8) := by decide
  have m2 : ∀ q : Fin 32, (255#32).getLsbD q.val = decide (q.val < 8) := by decide
  have a1 := m1 ⟨j, hj⟩
  have a2 := m2 ⟨j, hj⟩
  dsimp only at a1 a2
  rw [BitVec.getLsbD_and, BitVec.getLsbD_signExtend, BitVec.getLsbD_signExtend, BitVec.getLsbD_and, BitVec.getLsbD_sshiftRight, BitVec.getLsbD_ushiftRight, a1, a2]
  have b2 : j < 64 := by omega
  by_cases h : j < 8
  · have b1 : s + j < 64 := by omega
    simp [h, b1, b2, hj]
  · simp [h, b2]
def fdV (w : Int64) (i : Nat) : Int32 := (w.toUInt64 >>> (((8 : Int32) * nI i).toInt64.toUInt64 &&& Int64.toUInt64 63)).toInt64.toInt32 &&& 255
theorem fdB (w : Int64) {i : Nat} (hi : i < 8) : ((w >>> (((8 : Int32) * nI i).toInt64 &&& 63)) &&& 255).toInt32 = fdV w i := by
  rcases (show i = 0 ∨ i = 1 ∨ i = 2 ∨ i = 3 ∨ i = 4 ∨ i = 5 ∨ i = 6 ∨ i = 7 by omega) with rfl | rfl | rfl | rfl | rfl | rfl | rfl | rfl
  · apply Int32.toBitVec_inj.mp
    show BitVec.signExtend 32 ((w.toBitVec.sshiftRight' ((((8 : Int32) * nI 0).toInt64 &&& 63).toBitVec.smod 64)) &&& 255#64) = BitVec.signExtend 32 (w.toBitVec >>> ((((8 : Int32) * nI 0).toInt64.toUInt64 &&& Int64.toUInt64 63).toBitVec % 64)) &&& 255#32
    rw [show (((8 : Int32) * nI 0).toInt64 &&& 63).toBitVec.smod 64 = 0#64 from by decide, show (((8 : Int32) * nI 0).toInt64.toUInt64 &&& Int64.toUInt64 63).toBitVec % 64 = 0#64 from by decide]
    exact bvb w.toBitVec 0 (by decide)
  · apply Int32.toBitVec_inj.mp
    show BitVec.signExtend 32 ((w.toBitVec.sshiftRight' ((((8 : Int32) * nI 1).toInt64 &&& 63).toBitVec.smod 64)) &&& 255#64) = BitVec.signExtend 32 (w.toBitVec >>> ((((8 : Int32) * nI 1).toInt64.toUInt64 &&& Int64.toUInt64 63).toBitVec % 64)) &&& 255#32
    rw [show (((8 : Int32) * nI 1).toInt64 &&& 63).toBitVec.smod 64 = 8#64 from by decide, show (((8 : Int32) * nI 1).toInt64.toUInt64 &&& Int64.toUInt64 63).toBitVec % 64 = 8#64 from by decide]
    exact bvb w.toBitVec 8 (by decide)
  · apply Int32.toBitVec_inj.mp
    show BitVec.signExtend 32 ((w.toBitVec.sshiftRight' ((((8 : Int32) * nI 2).toInt64 &&& 63).toBitVec.smod 64)) &&& 255#64) = BitVec.signExtend 32 (w.toBitVec >>> ((((8 : Int32) * nI 2).toInt64.toUInt64 &&& Int64.toUInt64 63).toBitVec % 64)) &&& 255#32
    rw [show (((8 : Int32) * nI 2).toInt64 &&& 63).toBitVec.smod 64 = 16#64 from by decide, show (((8 : Int32) * nI 2).toInt64.toUInt64 &&& Int64.toUInt64 63).toBitVec % 64 = 16#64 from by decide]
    exact bvb w.toBitVec 16 (by decide)
  · apply Int32.toBitVec_inj.mp
    show BitVec.signExtend 32 ((w.toBitVec.sshiftRight' ((((8 : Int32) * nI 3).toInt64 &&& 63).toBitVec.smod 64)) &&& 255#64) = BitVec.signExtend 32 (w.toBitVec >>> ((((8 : Int32) * nI 3).toInt64.toUInt64 &&& Int64.toUInt64 63).toBitVec % 64)) &&& 255#32
    rw [show (((8 : Int32) * nI 3).toInt64 &&& 63).toBitVec.smod 64 = 24#64 from by decide, show (((8 : Int32) * nI 3).toInt64.toUInt64 &&& Int64.toUInt64 63).toBitVec % 64 = 24#64 from by decide]
    exact bvb w.toBitVec 24 (by decide)
  · apply Int32.toBitVec_inj.mp
    show BitVec.signExtend 32 ((w.toBitVec.sshiftRight' ((((8 : Int32) * nI 4).toInt64 &&& 63).toBitVec.smod 64)) &&& 255#64) = BitVec.signExtend 32 (w.toBitVec >>> ((((8 : Int32) * nI 4).toInt64.toUInt64 &&& Int64.toUInt64 63).toBitVec % 64)) &&& 255#32
    rw [show (((8 : Int32) * nI 4).toInt64 &&& 63).toBitVec.smod 64 = 32#64 from by decide, show (((8 : Int32) * nI 4).toInt64.toUInt64 &&& Int64.toUInt64 63).toBitVec % 64 = 32#64 from by decide]
    exact bvb w.toBitVec 32 (by decide)
  · apply Int32.toBitVec_inj.mp
    show BitVec.signExtend 32 ((w.toBitVec.sshiftRight' ((((8 : Int32) * nI 5).toInt64 &&& 63).toBitVec.smod 64)) &&& 255#64) = BitVec.signExtend 32 (w.toBitVec >>> ((((8 : Int32) * nI 5).toInt64.toUInt64 &&& Int64.toUInt64 63).toBitVec % 64)) &&& 255#32
    rw [show (((8 : Int32) * nI 5).toInt64 &&& 63).toBitVec.smod 64 = 40#64 from by decide, show (((8 : Int32) * nI 5).toInt64.toUInt64 &&& Int64.toUInt64 63).toBitVec % 64 = 40#64 from by decide]
    exact bvb w.toBitVec 40 (by decide)
  · apply Int32.toBitVec_inj.mp
    show BitVec.signExtend 32 ((w.toBitVec.sshiftRight' ((((8 : Int32) * nI 6).toInt64 &&& 63).toBitVec.smod 64)) &&& 255#64) = BitVec.signExtend 32 (w.toBitVec >>> ((((8 : Int32) * nI 6).toInt64.toUInt64 &&& Int64.toUInt64 63).toBitVec % 64)) &&& 255#32
    rw [show (((8 : Int32) * nI 6).toInt64 &&& 63).toBitVec.smod 64 = 48#64 from by decide, show (((8 : Int32) * nI 6).toInt64.toUInt64 &&& Int64.toUInt64 63).toBitVec % 64 = 48#64 from by decide]
    exact bvb w.toBitVec 48 (by decide)
  · apply Int32.toBitVec_inj.mp
    show BitVec.signExtend 32 ((w.toBitVec.sshiftRight' ((((8 : Int32) * nI 7).toInt64 &&& 63).toBitVec.smod 64)) &&& 255#64) = BitVec.signExtend 32 (w.toBitVec >>> ((((8 : Int32) * nI 7).toInt64.toUInt64 &&& Int64.toUInt64 63).toBitVec % 64)) &&& 255#32
    rw [show (((8 : Int32) * nI 7).toInt64 &&& 63).toBitVec.smod 64 = 56#64 from by decide, show (((8 : Int32) * nI 7).toInt64.toUInt64 &&& Int64.toUInt64 63).toBitVec % 64 = 56#64 from by decide]
    exact bvb w.toBitVec 56 (by decide)
theorem fdV_b (w : Int64) (i : Nat) : ∃ b : Nat, b < 256 ∧ fdV w i = nI b := pk_andE _ 8 (by decide)
def fdC (w : Int64) (I : mm_I) (l : Nat) : Nat → mm_I
  | 0 => I
  | i + 1 => mm_up (mm_up (fdC w I l i) 29 (l + i) (fdV w i)) 28 2 (nI (l + i + 1))
def fdM (w : Int64) (I : mm_I) (l : Nat) : Nat → mm_I
  | 0 => I
  | i + 1 => mm_up (mm_up (fdM w I l i) 92 (49 + (l + i)) (fdV w i)) 92 5 (nI (l + i + 1))
theorem fdC_ne {w : Int64} {I : mm_I} {l k : Nat} (h : k ≠ 28) (h2 : k ≠ 29) : ∀ i, fdC w I l i k = I k
  | 0 => rfl
  | i + 1 => (mm_up_ne _ _ _ _ _ h).trans ((mm_up_ne _ _ _ _ _ h2).trans (fdC_ne h h2 i))
theorem fdM_ne {w : Int64} {I : mm_I} {l k : Nat} (h : k ≠ 92) : ∀ i, fdM w I l i k = I k
  | 0 => rfl
  | i + 1 => (mm_up_ne _ _ _ _ _ h).trans ((mm_up_ne _ _ _ _ _ h).trans (fdM_ne h i))
theorem fdC_l {w : Int64} {I : mm_I} {l : Nat} (h : I 28 2 = nI l) (h1 : I 28 1 = 32) : ∀ i, fdC w I l i 28 2 = nI (l + i) ∧ fdC w I l i 28 1 = 32
  | 0 => ⟨h, h1⟩
  | i + 1 => ⟨by show mm_up _ 28 2 _ 28 2 = _; rw [mm_up_at, if_pos ⟨rfl, rfl⟩]; rfl, by show mm_up _ 28 2 _ 28 1 = _; rw [mm_up_at, if_neg (by omega), mm_up_ne _ _ _ _ _ (by decide)]; exact (fdC_l h h1 i).2⟩
theorem fdM_l {w : Int64} {I : mm_I} {l : Nat} (h : I 92 5 = nI l) : ∀ i, fdM w I l i 92 5 = nI (l + i)
  | 0 => h
  | i + 1 => by show mm_up _ 92 5 _ 92 5 = _; rw [mm_up_at, if_pos ⟨rfl, rfl⟩]; rfl
theorem fdM_cg {w : Int64} {I K : mm_I} {l : Nat} (h : K 92 = I 92) : ∀ i, fdM w K l i 92 = fdM w I l i 92
  | 0 => h
  | i + 1 => by
    show mm_up (mm_up (fdM w K l i) 92 (49 + (l + i)) (fdV w i)) 92 5 _ 92 = mm_up (mm_up (fdM w I l i) 92 (49 + (l + i)) (fdV w i)) 92 5 _ 92
    rw [mm_up_same, mm_up_same, mm_up_same, mm_up_same, fdM_cg h i]
theorem HS_tape {S : mm_I} {R : Nat → Int32} {nc np l b : Nat} {v : Int32} (H : HS S R nc np) (hl : S 17 2 = nI l) (hl50 : l < 50) (hb : b < 256) (hv : v = nI b) : HS (mm_up (mm_up S 18 l v) 17 2 (nI (l + 1))) (upd (upd R (49 + l) v) 5 (nI (l + 1))) nc np := by
  obtain ⟨⟨u, tl1, tl2, tl3, tl4, tl5⟩, ⟨l0, wl1, wl2, wl3, wl4, wl5⟩⟩ := H.2.2.2.2.1
  have e : u = l := by rw [tl3] at hl; exact (nI_eq (by omega) (by omega)).mp hl
  subst e
  refine HS_tp H (fun k hk => by rw [mm_up_ne _ _ _ _ _ (by omega), mm_up_ne _ _ _ _ _ (by omega)]) (fun j a b c => by simp only [upd]; rw [if_neg (by omega), if_neg (by omega)]) ⟨⟨u + 1, by omega, ?_, by simp [mm_up_at], by simp [upd], fun j hj => ?_⟩, ⟨l0, wl1, wl2, wl3, ?_, fun j hj => ?_⟩⟩
  · rw [mm_up_at, if_neg (by omega), mm_up_ne _ _ _ _ _ (by omega)]; exact tl2
  · rw [mm_up_ne _ _ _ _ _ (by omega), mm_up_at]
    simp only [upd]
    rw [if_neg (show ¬ 49 + j = 5 by omega)]
    by_cases h : j = u
    · subst h; simp only [and_self, if_true]; exact ⟨trivial, b, hb, hv⟩
    · rw [if_neg (fun z => h z.2), if_neg (by omega)]; exact tl5 j (by omega)
  · simp only [upd]; rw [if_neg (by omega), if_neg (by omega)]; exact wl4
  · simp only [upd]; rw [if_neg (by omega), if_neg (by omega), mm_up_ne _ _ _ _ _ (by omega), mm_up_ne _ _ _ _ _ (by omega)]; exact wl5 j hj
theorem HS_fd {I : mm_I} {nc np l : Nat} {w : Int64} (hs : HS (cells I 11) (I 92) nc np) (h2 : I 28 2 = nI l) (h1 : I 28 1 = 32) : ∀ k, l + k ≤ 50 → HS (cells (fdC w I l k) 11) (fdM w I l k 92) nc np
  | 0, _ => hs
  | k + 1, hk => by
    have ih := HS_fd (w := w) hs h2 h1 k (by omega)
    show HS (cells (mm_up (mm_up (fdC w I l k) (11 + 18) (l + k) (fdV w k)) (11 + 17) 2 (nI (l + k + 1))) 11) (mm_up (mm_up (fdM w I l k) 92 (49 + (l + k)) (fdV w k)) 92 5 (nI (l + k + 1)) 92) nc np
    rw [cells_up, cells_up, mm_up_same, mm_up_same]
    obtain ⟨b, hb, eb⟩ := fdV_b w k
    exact HS_tape ih (fdC_l h2 h1 k).1 (by omega) hb eb
theorem lp_feed {X : Nat × (Nat → Int32)} {d : Nat} {I : mm_I} {w : Int64} {l M : Nat} {P : Int32 → mm_I → Prop} (h2 : I 28 2 = nI l) (h1 : I 28 1 = 32) (hM : M ≤ 8) (hlM : l + M ≤ 50) (hQ : P (nI (l + M)) (fdC w I l M)) : ∀ (n i : Nat), i + n = M → True → mm_Ev mm_T0 X (d + 20) 85 44 [.ref 0, .long w, .retAddr 0, .int (nI M), .int (nI i)] [] (fdC w I l i) (mm_pi P) := by
  have t0 := tCV
  intro n
  induction n with
  | zero =>
    intro i hi _ht
    have e : i = M := by omega
    subst e
    refine ev_ild4 k85_44 ?_
    refine ev_ild3 k85_46 ?_
    refine ev_jcmp_ge k85_47 (fun h47 => ?_) (fun h47 => absurd h47 (nI_nlt (Nat.le_refl _) (by omega)))
    refine ev_ald0 k85_78 ?_
    refine ev_getr k85_79 (by first | assumption | rfl) rfl rfl rfl ?_
    refine ev_getr k85_82 (by first | assumption | rfl) rfl rfl rfl ?_
    refine ev_gfv (j := 2) k85_85 (by first | assumption | rfl) rfl rfl rfl rfl (fdC_l h2 h1 i).1 ?_
    refine ev_ri k85_88 rfl ?_
    exact hQ
  | succ n ih =>
    intro i hi _ht
    have hlt : i < M := by omega
    refine ev_ild4 k85_44 ?_
    refine ev_ild3 k85_46 ?_
    refine ev_jcmp_ge k85_47 (fun h47 => absurd (nI_lt hlt (by omega)) h47) (fun h47 => ?_)
    refine ev_ald0 k85_50 ?_
    refine ev_getr k85_51 (by first | assumption | rfl) rfl rfl rfl ?_
    refine ev_getr k85_54 (by first | assumption | rfl) rfl rfl rfl ?_
    refine ev_lload_n k85_57 rfl ?_
    refine ev_bipush k85_58 ?_
    refine ev_ild4 k85_60 ?_
    refine ev_imul k85_62 ?_
    refine ev_lushr k85_63 ?_
    refine ev_l2i k85_64 ?_
    refine ev_sipush k85_65 ?_
    refine ev_iand k85_68 ?_
    refine ev_cV2v k85_69 cs_185 (by first | assumption | rfl) (by omega) (Nat.le_of_ble_eq_true rfl) rfl rfl rfl ?_
    refine sp_add (ra := 28) (N := 50) (n := l + i) rfl rfl (by decide) (fdC_l h2 h1 i).1 (by omega) (by decide) ?_
    rw [if_pos (show l + i < 50 by omega), (fdC_l h2 h1 i).2, cut32]
    refine ev_inc4 k85_72 rfl ?_
    refine ev_goto k85_75 ?_
    rw [nI_1]
    exact ih (i + 1) (by omega) trivial
theorem lm_feed {X : Nat × (Nat → Int32)} {d : Nat} {I : mm_I} {w : Int64} {l M : Nat} {P : Int32 → mm_I → Prop} (h2 : I 92 5 = nI l) (hM : M ≤ 8) (hlM : l + M ≤ 50) (hQ : P (nI (l + M)) (fdM w I l M)) : ∀ (n i : Nat), i + n = M → True → mm_Ev mm_T0 X (d + 20) 170 40 [.ref 91, .long w, .retAddr 0, .int (nI M), .int (nI i)] [] (fdM w I l i) (mm_pi P) := by
  have tm := tM
  have tr := tR
  intro n
  induction n with
  | zero =>
    intro i hi _ht
    have e : i = M := by omega
    subst e
    refine ev_ild4 k170_40 ?_
    refine ev_ild3 k170_42 ?_
    refine ev_jcmp_ge k170_43 (fun h43 => ?_) (fun h43 => absurd h43 (nI_nlt (Nat.le_refl _) (by omega)))
    refine ev_ald0 k170_88 ?_
    refine ev_getr k170_89 (by first | assumption | rfl) rfl rfl rfl ?_
    refine ev_iconst k170_92 ?_
    refine ev_ialv (j := 5) k170_93 (by first | assumption | rfl) (by omega) rfl (vp_dec rfl) (fdM_l h2 i) ?_
    refine ev_ri k170_94 rfl ?_
    exact hQ
  | succ n ih =>
    intro i hi _ht
    have hlt : i < M := by omega
    refine ev_ild4 k170_40 ?_
    refine ev_ild3 k170_42 ?_
    refine ev_jcmp_ge k170_43 (fun h43 => absurd (nI_lt hlt (by omega)) h43) (fun h43 => ?_)
    refine ev_ald0 k170_46 ?_
    refine ev_getr k170_47 (by first | assumption | rfl) rfl rfl rfl ?_
    refine ev_bipush k170_50 ?_
    refine ev_ald0 k170_52 ?_
    refine ev_getr k170_53 (by first | assumption | rfl) rfl rfl rfl ?_
    refine ev_iconst k170_56 ?_
    refine ev_ialv (j := 5) k170_57 (by first | assumption | rfl) (by omega) rfl (vp_dec rfl) (fdM_l h2 i) ?_
    refine ev_iadd k170_58 ?_
    rw [show (49 : Int32) + nI (l + i) = nI (49 + (l + i)) from nI_add 49 _]
    refine ev_lload_n k170_59 rfl ?_
    refine ev_bipush k170_60 ?_
    refine ev_ild4 k170_62 ?_
    refine ev_imul k170_64 ?_
    refine ev_lshr k170_65 ?_
    refine ev_ldc2_w k170_66 ?_
    refine ev_land k170_69 ?_
    refine ev_l2i k170_70 ?_
    rw [fdB w (show i < 8 by omega)]
    refine ev_ias (j := (49 + (l + i))) k170_71 (by first | assumption | rfl) (nI_clamp (by omega)) (vp_in_nI (show 49 + (l + i) < 321 by omega) (by omega)) ?_
    refine ev_ald0 k170_72 ?_
    refine ev_getr k170_73 (by first | assumption | rfl) rfl rfl rfl ?_
    refine ev_iconst k170_76 ?_
    refine ev_dup2 k170_77 rfl rfl ?_
    refine ev_ialv (j := 5) k170_78 (by first | assumption | rfl) (by omega) rfl (vp_dec rfl) (show _ = nI (l + i) from by rw [mm_up_at, if_neg (by omega)]; exact fdM_l h2 i) ?_
    refine ev_iconst k170_79 ?_
    refine ev_iadd k170_80 ?_
    rw [nI_1]
    refine ev_ias (j := 5) k170_81 (by first | assumption | rfl) rfl (vp_dec rfl) ?_
    refine ev_inc4 k170_82 rfl ?_
    refine ev_goto k170_85 ?_
    rw [nI_1]
    exact ih (i + 1) (by omega) trivial
/-- CV.feed -/
theorem op_feed {X : Nat × (Nat → Int32)} {d : Nat} {I : mm_I} {P : Int32 → mm_I → Prop} {w : Int64} {a : Int32} (inv : Inv I) (hQ : ∀ v J, mm_Ev mm_T0 X (d + 60) 170 0 (mm_ent 170 [.ref 91, .long w, .int a]) [] J (mm_pi fun w K => w = v ∧ Inv K) → P v J) : mm_Ev mm_T0 X (d + 60) 85 0 (mm_ent 85 [.ref 0, .long w, .int a]) [] I (mm_pi P) := by
  show mm_Ev mm_T0 X (d + 60) 85 0 [.ref 0, .long w, .retAddr 0, .int a, .retAddr 0] [] I (mm_pi P)
  obtain ⟨nc, np, hs⟩ := inv.1
  obtain ⟨c1, n6, p1, p6, rc, rp, rm, ok, sr, tt⟩ := hsF hs
  have t0 := tCV
  have tm := tM
  have tr := tR
  obtain ⟨l, tl1, tl2, tl3, tl4, tl5⟩ := hs.2.2.2.2.1.1
  refine ev_ild3 k85_0 ?_
  refine ev_iconst k85_1 ?_
  refine ev_bipush k85_2 ?_
  refine ev_cS3i k85_4 cs_179 rfl rfl rfl ?_
  refine sp_isWithin ?_
  refine ev_ifz_ne k85_7 (fun h7 => ?_) (fun h7 => ?_)
  ·
    obtain ⟨M, hM1, hM, rfl⟩ := wB_1n (hi := 8) (by decide) h7
    refine ev_ald0 k85_17 ?_
    refine ev_getr k85_18 (by first | assumption | rfl) rfl rfl rfl ?_
    refine ev_getr k85_21 (by first | assumption | rfl) rfl rfl rfl ?_
    refine ev_gfv (j := 2) k85_24 (by first | assumption | rfl) rfl rfl rfl rfl tl3 ?_
    refine ev_ild3 k85_27 ?_
    refine ev_iadd k85_28 ?_
    rw [nI_add]
    refine ev_bipush k85_29 ?_
    refine ev_jcmp_le k85_31 (fun h31 => ?_) (fun h31 => ?_)
    ·
      have hlM : l + M ≤ 50 := Nat.le_of_not_lt (fun z => h31 ((nI_ltI (show 50 < 2 ^ 31 by decide) (show l + M < 2 ^ 31 by omega)).mpr z))
      refine ev_iconst k85_41 ?_
      refine ev_ist4 k85_42 rfl ?_
      refine lp_feed tl3 tl2 hM hlM ?_ M 0 (by omega) trivial
      refine hQ _ _ ?_
      show mm_Ev mm_T0 X (d + 60) 170 0 [.ref 91, .long _, .retAddr 0, .int _, .retAddr 0] [] _ (mm_pi _)
      refine ev_ild3 k170_0 ?_
      refine ev_iconst k170_1 ?_
      refine ev_bipush k170_2 ?_
      refine ev_cS3i k170_4 cs_224 rfl rfl rfl ?_
      refine sp_in ?_
      refine ev_ifz_ne k170_7 (fun g7 => ?_) (fun g7 => Bool.noConfusion (Eq.trans (Eq.symm h7) g7))
      refine ev_ald0 k170_17 ?_
      refine ev_getr k170_18 (by first | assumption | rfl) rfl rfl rfl ?_
      refine ev_iconst k170_21 ?_
      refine ev_ialv (j := 5) k170_22 (by first | assumption | rfl) (by omega) rfl (vp_dec rfl) ((congrFun (fdC_ne (by decide) (by decide) _) 5).trans tl4) ?_
      refine ev_ild3 k170_23 ?_
      refine ev_iadd k170_24 ?_
      rw [nI_add]
      refine ev_bipush k170_25 ?_
      refine ev_jcmp_le k170_27 (fun g27 => ?_) (fun g27 => absurd g27 h31)
      refine ev_iconst k170_37 ?_
      refine ev_ist4 k170_38 rfl ?_
      refine lm_feed (l := l) ((congrFun (fdC_ne (by decide) (by decide) _) 5).trans tl4) hM hlM ?_ M 0 (by omega) trivial
      refine ⟨rfl, Inv_H inv (fun k hk => ?_) (nc := nc) (np := np) ?_⟩
      · rw [fdM_ne (by omega), fdC_ne (by omega) (by omega)]
      · rw [fdM_cg (fdC_ne (by decide) (by decide) _)]
        exact HS_congr (fun k hk _ _ _ => fdM_ne (by omega) _) (fun _ _ => rfl) (HS_fd hs tl3 tl2 M (by omega))
    ·
      refine ev_ald0 k85_34 ?_
      refine ev_ldc k85_35 ?_
      refine ev_cV2i k85_37 cs_174 (by first | assumption | rfl) (by omega) (Nat.le_of_ble_eq_true rfl) rfl rfl rfl ?_
      refine sp_error (k := 4) (by decide) (by decide) (by decide) ?_
      refine ev_ri k85_40 rfl ?_
      refine hQ _ _ ?_
      show mm_Ev mm_T0 X (d + 60) 170 0 [.ref 91, .long _, .retAddr 0, .int _, .retAddr 0] [] _ (mm_pi _)
      refine ev_ild3 k170_0 ?_
      refine ev_iconst k170_1 ?_
      refine ev_bipush k170_2 ?_
      refine ev_cS3i k170_4 cs_224 rfl rfl rfl ?_
      refine sp_in ?_
      refine ev_ifz_ne k170_7 (fun g7 => ?_) (fun g7 => Bool.noConfusion (Eq.trans (Eq.symm h7) g7))
      refine ev_ald0 k170_17 ?_
      refine ev_getr k170_18 (by first | assumption | rfl) rfl rfl rfl ?_
      refine ev_iconst k170_21 ?_
      refine ev_ialv (j := 5) k170_22 (by first | assumption | rfl) (by omega) rfl (vp_dec rfl) tl4 ?_
      refine ev_ild3 k170_23 ?_
      refine ev_iadd k170_24 ?_
      rw [nI_add]
      refine ev_bipush k170_25 ?_
      refine ev_jcmp_le k170_27 (fun g27 => absurd h31 g27) (fun g27 => ?_)
      refine ev_ald0 k170_30 ?_
      refine ev_ldc k170_31 ?_
      refine ev_cV2i k170_33 cs_238 (by first | assumption | rfl) (by omega) (Nat.le_of_ble_eq_true rfl) rfl rfl rfl ?_
      refine sm_error (k := 4) (by decide) (by decide) ?_
      refine ev_ri k170_36 rfl ?_
      first | exact ⟨rfl, Inv_e rfl rfl inv⟩ | exact ⟨rfl, inv⟩
  ·
    refine ev_ald0 k85_10 ?_
    refine ev_ldc k85_11 ?_
    refine ev_cV2i k85_13 cs_174 (by first | assumption | rfl) (by omega) (Nat.le_of_ble_eq_true rfl) rfl rfl rfl ?_
    refine sp_error (k := 1) (by decide) (by decide) (by decide) ?_
    refine ev_ri k85_16 rfl ?_
    refine hQ _ _ ?_
    show mm_Ev mm_T0 X (d + 60) 170 0 [.ref 91, .long _, .retAddr 0, .int _, .retAddr 0] [] _ (mm_pi _)
    refine ev_ild3 k170_0 ?_
    refine ev_iconst k170_1 ?_
    refine ev_bipush k170_2 ?_
    refine ev_cS3i k170_4 cs_224 rfl rfl rfl ?_
    refine sp_in ?_
    refine ev_ifz_ne k170_7 (fun g7 => Bool.noConfusion (Eq.trans (Eq.symm h7) g7)) (fun g7 => ?_)
    refine ev_ald0 k170_10 ?_
    refine ev_ldc k170_11 ?_
    refine ev_cV2i k170_13 cs_238 (by first | assumption | rfl) (by omega) (Nat.le_of_ble_eq_true rfl) rfl rfl rfl ?_
    refine sm_error (k := 1) (by decide) (by decide) ?_
    refine ev_ri k170_16 rfl ?_
    first | exact ⟨rfl, Inv_e rfl rfl inv⟩ | exact ⟨rfl, inv⟩
/-! move -/
theorem sub31 {l x : Nat} (hl : l ≤ 40) (hx : x < 2 ^ 31) : (nI l - nI x).toInt = (l : Int) - x := by
  rw [Int32.toInt_sub, nI_toInt (by omega), nI_toInt hx]
  exact Int.bmod_eq_of_le (by omega) (by omega)
theorem spn {l i n : Nat} (hl : l ≤ 40) (hi : i < 2 ^ 31) (hn : n < 2 ^ 31) : nI l - nI n < nI i ↔ ¬ (i + n ≤ l) := by
  rw [Int32.lt_iff_toInt_lt, sub31 hl hn, nI_toInt hi]
  omega
def spB (i n : Int32) (l : Nat) : Bool := !decide (i < 0) && !decide (n < 0) && !decide (nI l - n < i)
theorem spB_t {i n : Int32} {l : Nat} (hl : l ≤ 40) (h : spB i n l = true) : ∃ i0 n0 : Nat, i = nI i0 ∧ n = nI n0 ∧ i0 + n0 ≤ l := by
  simp only [spB, Bool.and_eq_true, Bool.not_eq_true', decide_eq_false_iff_not] at h
  obtain ⟨i0, hi, rfl⟩ := nI_of h.1.1
  obtain ⟨n0, hn, rfl⟩ := nI_of h.1.2
  exact ⟨i0, n0, rfl, rfl, Decidable.of_not_not (fun z => h.2 ((spn hl hi hn).mpr z))⟩
theorem spB_of {i n : Int32} {l : Nat} (hl : l ≤ 40) (h1 : ¬ i < 0) (h2 : ¬ n < 0) (h3 : ¬ nI l - i < n) : spB i n l = true := by
  obtain ⟨i0, hi, rfl⟩ := nI_of h1
  obtain ⟨n0, hn, rfl⟩ := nI_of h2
  have z : n0 + i0 ≤ l := Decidable.of_not_not (fun z => h3 ((spn hl hn hi).mpr z))
  unfold spB
  rw [decide_eq_false h1, decide_eq_false h2, decide_eq_false (fun w => (spn hl hi hn).mp w (by omega))]
  rfl
theorem sp_spansv {X : Nat × (Nat → Int32)} {d : Nat} {I : mm_I} {ra l : Nat} {i n : Int32} {P : Int32 → mm_I → Prop} (hr : mm_T0[ra]? = some (rC ra)) (hl : I ra 2 = nI l) (hQ : P (bI (spB i n l)) I) : mm_Ev mm_T0 X d 54 0 (mm_ent 54 [.ref ra, .int i, .int n]) [] I (mm_pi P) := sp_spans hr (by rw [hl]; exact hQ)
/-- Model.notMoved -/
theorem nm_A {X : Nat × (Nat → Int32)} {d : Nat} {I : mm_I} {a b e f w : Int32} {P : Int32 → mm_I → Prop} (ha : wB 0 3 a = false) (hQ : P (-1000000001) I) : mm_Ev mm_T0 X (d + 2) 233 0 (mm_ent 233 [.ref 91, .int a, .int b, .int e, .int f, .int w]) [] I (mm_pi P) := by
  show mm_Ev mm_T0 X (d + 2) 233 0 [.ref 91, .int a, .int b, .int e, .int f, .int w, .retAddr 0] [] I (mm_pi P)
  have tm := tM
  have tr := tR
  refine ev_ild1 k233_0 ?_
  refine ev_cS1i k233_1 cs_273 rfl rfl rfl ?_
  refine sm_isSheet ?_
  refine ev_ifz_eq k233_4 (fun h4 => ?_) (fun h4 => Bool.noConfusion (Eq.trans (Eq.symm ha) h4))
  refine ev_ldc k233_14 ?_
  refine ev_ri k233_16 rfl ?_
  exact hQ
/-- Model.notMoved -/
theorem nm_B {X : Nat × (Nat → Int32)} {d : Nat} {I : mm_I} {a b e f w : Int32} {P : Int32 → mm_I → Prop} (ha : wB 0 3 a = true) (he : wB 0 3 e = false) (hQ : P (-1000000001) I) : mm_Ev mm_T0 X (d + 2) 233 0 (mm_ent 233 [.ref 91, .int a, .int b, .int e, .int f, .int w]) [] I (mm_pi P) := by
  show mm_Ev mm_T0 X (d + 2) 233 0 [.ref 91, .int a, .int b, .int e, .int f, .int w, .retAddr 0] [] I (mm_pi P)
  have tm := tM
  have tr := tR
  refine ev_ild1 k233_0 ?_
  refine ev_cS1i k233_1 cs_273 rfl rfl rfl ?_
  refine sm_isSheet ?_
  refine ev_ifz_eq k233_4 (fun h4 => Bool.noConfusion (Eq.trans (Eq.symm ha) h4)) (fun h4 => ?_)
  refine ev_ild3 k233_7 ?_
  refine ev_cS1i k233_8 cs_273 rfl rfl rfl ?_
  refine sm_isSheet ?_
  refine ev_ifz_ne k233_11 (fun h11 => Bool.noConfusion (Eq.trans (Eq.symm he) h11)) (fun h11 => ?_)
  refine ev_ldc k233_14 ?_
  refine ev_ri k233_16 rfl ?_
  exact hQ
/-- Model.notMoved -/
theorem nm_C {X : Nat × (Nat → Int32)} {d : Nat} {I : mm_I} {s t : Nat} {b f w x y : Int32} {P : Int32 → mm_I → Prop} (ha : wB 0 3 (nI s) = true) (he : wB 0 3 (nI t) = true) (hs : s < 4) (ht : t < 4) (d1 : I 101 s = x) (d2 : I 101 t = y) (hx : x = 0) (hQ : P (-1000000002) I) : mm_Ev mm_T0 X (d + 2) 233 0 (mm_ent 233 [.ref 91, .int (nI s), .int b, .int (nI t), .int f, .int w]) [] I (mm_pi P) := by
  show mm_Ev mm_T0 X (d + 2) 233 0 [.ref 91, .int (nI s), .int b, .int (nI t), .int f, .int w, .retAddr 0] [] I (mm_pi P)
  have tm := tM
  have tr := tR
  have q1 := t101
  have q2 := t102
  have q3 := t103
  refine ev_ild1 k233_0 ?_
  refine ev_cS1i k233_1 cs_273 rfl rfl rfl ?_
  refine sm_isSheet ?_
  refine ev_ifz_eq k233_4 (fun h4 => Bool.noConfusion (Eq.trans (Eq.symm ha) h4)) (fun h4 => ?_)
  refine ev_ild3 k233_7 ?_
  refine ev_cS1i k233_8 cs_273 rfl rfl rfl ?_
  refine sm_isSheet ?_
  refine ev_ifz_ne k233_11 (fun h11 => ?_) (fun h11 => Bool.noConfusion (Eq.trans (Eq.symm he) h11))
  refine ev_ald0 k233_17 ?_
  refine ev_getr k233_18 (by first | assumption | rfl) rfl rfl rfl ?_
  refine ev_ild1 k233_21 ?_
  refine ev_ialv (j := s) k233_22 (by first | assumption | rfl) (by omega) (nI_clamp (by omega)) (vp_in_nI (show s < 4 by omega) (by decide)) d1 ?_
  refine ev_if_eq k233_23 (fun h23 => ?_) (fun h23 => absurd hx h23)
  refine ev_ldc k233_35 ?_
  refine ev_ri k233_37 rfl ?_
  exact hQ
/-- Model.notMoved -/
theorem nm_D {X : Nat × (Nat → Int32)} {d : Nat} {I : mm_I} {s t : Nat} {b f w x y : Int32} {P : Int32 → mm_I → Prop} (ha : wB 0 3 (nI s) = true) (he : wB 0 3 (nI t) = true) (hs : s < 4) (ht : t < 4) (d1 : I 101 s = x) (d2 : I 101 t = y) (hx : ¬ x = 0) (hy : y = 0) (hQ : P (-1000000002) I) : mm_Ev mm_T0 X (d + 2) 233 0 (mm_ent 233 [.ref 91, .int (nI s), .int b, .int (nI t), .int f, .int w]) [] I (mm_pi P) := by
  show mm_Ev mm_T0 X (d + 2) 233 0 [.ref 91, .int (nI s), .int b, .int (nI t), .int f, .int w, .retAddr 0] [] I (mm_pi P)
  have tm := tM
  have tr := tR
  have q1 := t101
  have q2 := t102
  have q3 := t103
  refine ev_ild1 k233_0 ?_
  refine ev_cS1i k233_1 cs_273 rfl rfl rfl ?_
  refine sm_isSheet ?_
  refine ev_ifz_eq k233_4 (fun h4 => Bool.noConfusion (Eq.trans (Eq.symm ha) h4)) (fun h4 => ?_)
  refine ev_ild3 k233_7 ?_
  refine ev_cS1i k233_8 cs_273 rfl rfl rfl ?_
  refine sm_isSheet ?_
  refine ev_ifz_ne k233_11 (fun h11 => ?_) (fun h11 => Bool.noConfusion (Eq.trans (Eq.symm he) h11))
  refine ev_ald0 k233_17 ?_
  refine ev_getr k233_18 (by first | assumption | rfl) rfl rfl rfl ?_
  refine ev_ild1 k233_21 ?_
  refine ev_ialv (j := s) k233_22 (by first | assumption | rfl) (by omega) (nI_clamp (by omega)) (vp_in_nI (show s < 4 by omega) (by decide)) d1 ?_
  refine ev_if_eq k233_23 (fun h23 => absurd h23 hx) (fun h23 => ?_)
  refine ev_ald0 k233_26 ?_
  refine ev_getr k233_27 (by first | assumption | rfl) rfl rfl rfl ?_
  refine ev_ild3 k233_30 ?_
  refine ev_ialv (j := t) k233_31 (by first | assumption | rfl) (by omega) (nI_clamp (by omega)) (vp_in_nI (show t < 4 by omega) (by decide)) d2 ?_
  refine ev_if_ne k233_32 (fun h32 => absurd hy h32) (fun h32 => ?_)
  refine ev_ldc k233_35 ?_
  refine ev_ri k233_37 rfl ?_
  exact hQ
/-- Model.notMoved -/
theorem nm_E {X : Nat × (Nat → Int32)} {d : Nat} {I : mm_I} {s t : Nat} {b f w x y : Int32} {P : Int32 → mm_I → Prop} (ha : wB 0 3 (nI s) = true) (he : wB 0 3 (nI t) = true) (hs : s < 4) (ht : t < 4) (d1 : I 101 s = x) (d2 : I 101 t = y) (hx : ¬ x = 0) (hy : ¬ y = 0) (hxy : ¬ x = y) (hQ : P (-1000000005) I) : mm_Ev mm_T0 X (d + 2) 233 0 (mm_ent 233 [.ref 91, .int (nI s), .int b, .int (nI t), .int f, .int w]) [] I (mm_pi P) := by
  show mm_Ev mm_T0 X (d + 2) 233 0 [.ref 91, .int (nI s), .int b, .int (nI t), .int f, .int w, .retAddr 0] [] I (mm_pi P)
  have tm := tM
  have tr := tR
  have q1 := t101
  have q2 := t102
  have q3 := t103
  refine ev_ild1 k233_0 ?_
  refine ev_cS1i k233_1 cs_273 rfl rfl rfl ?_
  refine sm_isSheet ?_
  refine ev_ifz_eq k233_4 (fun h4 => Bool.noConfusion (Eq.trans (Eq.symm ha) h4)) (fun h4 => ?_)
  refine ev_ild3 k233_7 ?_
  refine ev_cS1i k233_8 cs_273 rfl rfl rfl ?_
  refine sm_isSheet ?_
  refine ev_ifz_ne k233_11 (fun h11 => ?_) (fun h11 => Bool.noConfusion (Eq.trans (Eq.symm he) h11))
  refine ev_ald0 k233_17 ?_
  refine ev_getr k233_18 (by first | assumption | rfl) rfl rfl rfl ?_
  refine ev_ild1 k233_21 ?_
  refine ev_ialv (j := s) k233_22 (by first | assumption | rfl) (by omega) (nI_clamp (by omega)) (vp_in_nI (show s < 4 by omega) (by decide)) d1 ?_
  refine ev_if_eq k233_23 (fun h23 => absurd h23 hx) (fun h23 => ?_)
  refine ev_ald0 k233_26 ?_
  refine ev_getr k233_27 (by first | assumption | rfl) rfl rfl rfl ?_
  refine ev_ild3 k233_30 ?_
  refine ev_ialv (j := t) k233_31 (by first | assumption | rfl) (by omega) (nI_clamp (by omega)) (vp_in_nI (show t < 4 by omega) (by decide)) d2 ?_
  refine ev_if_ne k233_32 (fun h32 => ?_) (fun h32 => absurd h32 hy)
  refine ev_ald0 k233_38 ?_
  refine ev_getr k233_39 (by first | assumption | rfl) rfl rfl rfl ?_
  refine ev_ild1 k233_42 ?_
  refine ev_ialv (j := s) k233_43 (by first | assumption | rfl) (by omega) (nI_clamp (by omega)) (vp_in_nI (show s < 4 by omega) (by decide)) d1 ?_
  refine ev_ald0 k233_44 ?_
  refine ev_getr k233_45 (by first | assumption | rfl) rfl rfl rfl ?_
  refine ev_ild3 k233_48 ?_
  refine ev_ialv (j := t) k233_49 (by first | assumption | rfl) (by omega) (nI_clamp (by omega)) (vp_in_nI (show t < 4 by omega) (by decide)) d2 ?_
  refine ev_icmp_eq k233_50 (fun h50 => absurd h50 hxy) (fun h50 => ?_)
  refine ev_ldc k233_53 ?_
  refine ev_ri k233_55 rfl ?_
  exact hQ
/-- Model.notMoved -/
theorem nm_F {X : Nat × (Nat → Int32)} {d : Nat} {I : mm_I} {s t i j n ls lt : Nat} {x y : Int32} {P : Int32 → mm_I → Prop} (ha : wB 0 3 (nI s) = true) (he : wB 0 3 (nI t) = true) (hs : s < 4) (ht : t < 4) (d1 : I 101 s = x) (d2 : I 101 t = y) (hx : ¬ x = 0) (hy : ¬ y = 0) (hxy : x = y) (d3 : I 102 s = nI ls) (d4 : I 102 t = nI lt) (hls : ls ≤ 40) (hlt : lt ≤ 40) (h1 : i + n ≤ ls) (h2 : j + n ≤ lt) (hQ : P 0 I) : mm_Ev mm_T0 X (d + 2) 233 0 (mm_ent 233 [.ref 91, .int (nI s), .int (nI i), .int (nI t), .int (nI j), .int (nI n)]) [] I (mm_pi P) := by
  show mm_Ev mm_T0 X (d + 2) 233 0 [.ref 91, .int (nI s), .int (nI i), .int (nI t), .int (nI j), .int (nI n), .retAddr 0] [] I (mm_pi P)
  have tm := tM
  have tr := tR
  have q1 := t101
  have q2 := t102
  have q3 := t103
  refine ev_ild1 k233_0 ?_
  refine ev_cS1i k233_1 cs_273 rfl rfl rfl ?_
  refine sm_isSheet ?_
  refine ev_ifz_eq k233_4 (fun h4 => Bool.noConfusion (Eq.trans (Eq.symm ha) h4)) (fun h4 => ?_)
  refine ev_ild3 k233_7 ?_
  refine ev_cS1i k233_8 cs_273 rfl rfl rfl ?_
  refine sm_isSheet ?_
  refine ev_ifz_ne k233_11 (fun h11 => ?_) (fun h11 => Bool.noConfusion (Eq.trans (Eq.symm he) h11))
  refine ev_ald0 k233_17 ?_
  refine ev_getr k233_18 (by first | assumption | rfl) rfl rfl rfl ?_
  refine ev_ild1 k233_21 ?_
  refine ev_ialv (j := s) k233_22 (by first | assumption | rfl) (by omega) (nI_clamp (by omega)) (vp_in_nI (show s < 4 by omega) (by decide)) d1 ?_
  refine ev_if_eq k233_23 (fun h23 => absurd h23 hx) (fun h23 => ?_)
  refine ev_ald0 k233_26 ?_
  refine ev_getr k233_27 (by first | assumption | rfl) rfl rfl rfl ?_
  refine ev_ild3 k233_30 ?_
  refine ev_ialv (j := t) k233_31 (by first | assumption | rfl) (by omega) (nI_clamp (by omega)) (vp_in_nI (show t < 4 by omega) (by decide)) d2 ?_
  refine ev_if_ne k233_32 (fun h32 => ?_) (fun h32 => absurd h32 hy)
  refine ev_ald0 k233_38 ?_
  refine ev_getr k233_39 (by first | assumption | rfl) rfl rfl rfl ?_
  refine ev_ild1 k233_42 ?_
  refine ev_ialv (j := s) k233_43 (by first | assumption | rfl) (by omega) (nI_clamp (by omega)) (vp_in_nI (show s < 4 by omega) (by decide)) d1 ?_
  refine ev_ald0 k233_44 ?_
  refine ev_getr k233_45 (by first | assumption | rfl) rfl rfl rfl ?_
  refine ev_ild3 k233_48 ?_
  refine ev_ialv (j := t) k233_49 (by first | assumption | rfl) (by omega) (nI_clamp (by omega)) (vp_in_nI (show t < 4 by omega) (by decide)) d2 ?_
  refine ev_icmp_eq k233_50 (fun h50 => ?_) (fun h50 => absurd hxy h50)
  refine ev_ild5 k233_56 ?_
  refine ev_if_lt k233_58 (fun h58 => absurd h58 (nI_pos (by omega))) (fun h58 => ?_)
  refine ev_ild2 k233_61 ?_
  refine ev_if_lt k233_62 (fun h62 => absurd h62 (nI_pos (by omega))) (fun h62 => ?_)
  refine ev_ild4 k233_65 ?_
  refine ev_if_lt k233_67 (fun h67 => absurd h67 (nI_pos (by omega))) (fun h67 => ?_)
  refine ev_ild5 k233_70 ?_
  refine ev_ald0 k233_72 ?_
  refine ev_getr k233_73 (by first | assumption | rfl) rfl rfl rfl ?_
  refine ev_ild1 k233_76 ?_
  refine ev_ialv (j := s) k233_77 (by first | assumption | rfl) (by omega) (nI_clamp (by omega)) (vp_in_nI (show s < 4 by omega) (by decide)) d3 ?_
  refine ev_ild2 k233_78 ?_
  refine ev_isub k233_79 ?_
  refine ev_icmp_gt k233_80 (fun h80 => absurd (show n + i ≤ ls by omega) ((spn hls (by omega) (by omega)).mp h80)) (fun h80 => ?_)
  refine ev_ild5 k233_83 ?_
  refine ev_ald0 k233_85 ?_
  refine ev_getr k233_86 (by first | assumption | rfl) rfl rfl rfl ?_
  refine ev_ild3 k233_89 ?_
  refine ev_ialv (j := t) k233_90 (by first | assumption | rfl) (by omega) (nI_clamp (by omega)) (vp_in_nI (show t < 4 by omega) (by decide)) d4 ?_
  refine ev_ild4 k233_91 ?_
  refine ev_isub k233_93 ?_
  refine ev_icmp_gt k233_94 (fun h94 => absurd (show n + j ≤ lt by omega) ((spn hlt (by omega) (by omega)).mp h94)) (fun h94 => ?_)
  refine ev_iconst k233_97 ?_
  refine ev_goto k233_98 ?_
  refine ev_ist6 k233_102 rfl ?_
  refine ev_ild6 k233_104 ?_
  refine ev_if_eq k233_106 (fun h106 => absurd h106 (by decide)) (fun h106 => ?_)
  refine ev_iconst k233_109 ?_
  refine ev_goto k233_110 ?_
  refine ev_ri k233_115 rfl ?_
  exact hQ
/-- Model.notMoved -/
theorem nm_G {X : Nat × (Nat → Int32)} {d : Nat} {I : mm_I} {s t ls lt : Nat} {b f w x y : Int32} {P : Int32 → mm_I → Prop} (ha : wB 0 3 (nI s) = true) (he : wB 0 3 (nI t) = true) (hs : s < 4) (ht : t < 4) (d1 : I 101 s = x) (d2 : I 101 t = y) (hx : ¬ x = 0) (hy : ¬ y = 0) (hxy : x = y) (d3 : I 102 s = nI ls) (d4 : I 102 t = nI lt) (hls : ls ≤ 40) (hlt : lt ≤ 40) (hno : ¬ (spB b w ls = true ∧ spB f w lt = true)) (hQ : P (-1000000001) I) : mm_Ev mm_T0 X (d + 2) 233 0 (mm_ent 233 [.ref 91, .int (nI s), .int b, .int (nI t), .int f, .int w]) [] I (mm_pi P) := by
  show mm_Ev mm_T0 X (d + 2) 233 0 [.ref 91, .int (nI s), .int b, .int (nI t), .int f, .int w, .retAddr 0] [] I (mm_pi P)
  have tm := tM
  have tr := tR
  have q1 := t101
  have q2 := t102
  have q3 := t103
  refine ev_ild1 k233_0 ?_
  refine ev_cS1i k233_1 cs_273 rfl rfl rfl ?_
  refine sm_isSheet ?_
  refine ev_ifz_eq k233_4 (fun h4 => Bool.noConfusion (Eq.trans (Eq.symm ha) h4)) (fun h4 => ?_)
  refine ev_ild3 k233_7 ?_
  refine ev_cS1i k233_8 cs_273 rfl rfl rfl ?_
  refine sm_isSheet ?_
  refine ev_ifz_ne k233_11 (fun h11 => ?_) (fun h11 => Bool.noConfusion (Eq.trans (Eq.symm he) h11))
  refine ev_ald0 k233_17 ?_
  refine ev_getr k233_18 (by first | assumption | rfl) rfl rfl rfl ?_
  refine ev_ild1 k233_21 ?_
  refine ev_ialv (j := s) k233_22 (by first | assumption | rfl) (by omega) (nI_clamp (by omega)) (vp_in_nI (show s < 4 by omega) (by decide)) d1 ?_
  refine ev_if_eq k233_23 (fun h23 => absurd h23 hx) (fun h23 => ?_)
  refine ev_ald0 k233_26 ?_
  refine ev_getr k233_27 (by first | assumption | rfl) rfl rfl rfl ?_
  refine ev_ild3 k233_30 ?_
  refine ev_ialv (j := t) k233_31 (by first | assumption | rfl) (by omega) (nI_clamp (by omega)) (vp_in_nI (show t < 4 by omega) (by decide)) d2 ?_
  refine ev_if_ne k233_32 (fun h32 => ?_) (fun h32 => absurd h32 hy)
  refine ev_ald0 k233_38 ?_
  refine ev_getr k233_39 (by first | assumption | rfl) rfl rfl rfl ?_
  refine ev_ild1 k233_42 ?_
  refine ev_ialv (j := s) k233_43 (by first | assumption | rfl) (by omega) (nI_clamp (by omega)) (vp_in_nI (show s < 4 by omega) (by decide)) d1 ?_
  refine ev_ald0 k233_44 ?_
  refine ev_getr k233_45 (by first | assumption | rfl) rfl rfl rfl ?_
  refine ev_ild3 k233_48 ?_
  refine ev_ialv (j := t) k233_49 (by first | assumption | rfl) (by omega) (nI_clamp (by omega)) (vp_in_nI (show t < 4 by omega) (by decide)) d2 ?_
  refine ev_icmp_eq k233_50 (fun h50 => ?_) (fun h50 => absurd hxy h50)
  refine ev_ild5 k233_56 ?_
  refine ev_if_lt k233_58 (fun h58 => ?_) (fun h58 => ?_)
  ·
    refine ev_iconst k233_101 ?_
    refine ev_ist6 k233_102 rfl ?_
    refine ev_ild6 k233_104 ?_
    refine ev_if_eq k233_106 (fun h106 => ?_) (fun h106 => absurd rfl h106)
    refine ev_ldc k233_113 ?_
    refine ev_ri k233_115 rfl ?_
    exact hQ
  ·
    refine ev_ild2 k233_61 ?_
    refine ev_if_lt k233_62 (fun h62 => ?_) (fun h62 => ?_)
    ·
      refine ev_iconst k233_101 ?_
      refine ev_ist6 k233_102 rfl ?_
      refine ev_ild6 k233_104 ?_
      refine ev_if_eq k233_106 (fun h106 => ?_) (fun h106 => absurd rfl h106)
      refine ev_ldc k233_113 ?_
      refine ev_ri k233_115 rfl ?_
      exact hQ
    ·
      refine ev_ild4 k233_65 ?_
      refine ev_if_lt k233_67 (fun h67 => ?_) (fun h67 => ?_)
      ·
        refine ev_iconst k233_101 ?_
        refine ev_ist6 k233_102 rfl ?_
        refine ev_ild6 k233_104 ?_
        refine ev_if_eq k233_106 (fun h106 => ?_) (fun h106 => absurd rfl h106)
        refine ev_ldc k233_113 ?_
        refine ev_ri k233_115 rfl ?_
        exact hQ
      ·
        refine ev_ild5 k233_70 ?_
        refine ev_ald0 k233_72 ?_
        refine ev_getr k233_73 (by first | assumption | rfl) rfl rfl rfl ?_
        refine ev_ild1 k233_76 ?_
        refine ev_ialv (j := s) k233_77 (by first | assumption | rfl) (by omega) (nI_clamp (by omega)) (vp_in_nI (show s < 4 by omega) (by decide)) d3 ?_
        refine ev_ild2 k233_78 ?_
        refine ev_isub k233_79 ?_
        refine ev_icmp_gt k233_80 (fun h80 => ?_) (fun h80 => ?_)
        ·
          refine ev_iconst k233_101 ?_
          refine ev_ist6 k233_102 rfl ?_
          refine ev_ild6 k233_104 ?_
          refine ev_if_eq k233_106 (fun h106 => ?_) (fun h106 => absurd rfl h106)
          refine ev_ldc k233_113 ?_
          refine ev_ri k233_115 rfl ?_
          exact hQ
        ·
          refine ev_ild5 k233_83 ?_
          refine ev_ald0 k233_85 ?_
          refine ev_getr k233_86 (by first | assumption | rfl) rfl rfl rfl ?_
          refine ev_ild3 k233_89 ?_
          refine ev_ialv (j := t) k233_90 (by first | assumption | rfl) (by omega) (nI_clamp (by omega)) (vp_in_nI (show t < 4 by omega) (by decide)) d4 ?_
          refine ev_ild4 k233_91 ?_
          refine ev_isub k233_93 ?_
          refine ev_icmp_gt k233_94 (fun h94 => ?_) (fun h94 => ?_)
          ·
            refine ev_iconst k233_101 ?_
            refine ev_ist6 k233_102 rfl ?_
            refine ev_ild6 k233_104 ?_
            refine ev_if_eq k233_106 (fun h106 => ?_) (fun h106 => absurd rfl h106)
            refine ev_ldc k233_113 ?_
            refine ev_ri k233_115 rfl ?_
            exact hQ
          ·
            exact absurd ⟨spB_of hls h62 h58 h80, spB_of hlt h67 h58 h94⟩ hno
def mvF (f : Nat → Int32) (src dst a b : Nat) : Nat → Int32 := fun x => if dst + a ≤ x ∧ x < dst + b then f (src + (x - dst)) else f x
theorem mvF_0 (f : Nat → Int32) (src dst a : Nat) : mvF f src dst a a = f := funext fun x => if_neg (by omega)
theorem mvF_up (f : Nat → Int32) (src dst a b : Nat) (h : a ≤ b) : upd (mvF f src dst a b) (dst + b) (f (src + b)) = mvF f src dst a (b + 1) := by
  funext x
  unfold upd mvF
  by_cases e : x = dst + b
  · rw [if_pos e, if_pos (by omega), show src + (x - dst) = src + b by omega]
  · rw [if_neg e]
    try dsimp only
    by_cases q : dst + a ≤ x ∧ x < dst + b
    · rw [if_pos q, if_pos (by omega)]
    · rw [if_neg q, if_neg (by omega)]
theorem mvF_dn (f : Nat → Int32) (src dst a b : Nat) (h : a < b) : upd (mvF f src dst (a + 1) b) (dst + a) (f (src + a)) = mvF f src dst a b := by
  funext x
  unfold upd mvF
  by_cases e : x = dst + a
  · rw [if_pos e, if_pos (by omega), show src + (x - dst) = src + a by omega]
  · rw [if_neg e]
    try dsimp only
    by_cases q : dst + (a + 1) ≤ x ∧ x < dst + b
    · rw [if_pos q, if_pos (by omega)]
    · rw [if_neg q, if_neg (by omega)]
theorem idxM (t j k : Nat) : (40 : Int32) * nI t + nI j + nI k = nI (40 * t + j + k) := by
  rw [idxC, nI_add]
theorem lm_moveF {X : Nat × (Nat → Int32)} {d : Nat} {J : mm_I} {s t i0 j0 n0 : Nat} {P : Int32 → mm_I → Prop} (hs : s < 4) (ht : t < 4) (h1 : i0 + n0 ≤ 40) (h2 : j0 + n0 ≤ 40) (hd : ¬ i0 < j0) (hQ : P (nI n0) (mm_rp J 103 (mvF (J 103) (40 * s + i0) (40 * t + j0) 0 n0))) : ∀ (n i : Nat) (v8 : Value), i + n = n0 → mm_Ev mm_T0 X (d + 20) 234 28 [.ref 91, .int (nI s), .int (nI i0), .int (nI t), .int (nI j0), .int (nI n0), .int 0, .int (nI i), v8] [] (mm_rp J 103 (mvF (J 103) (40 * s + i0) (40 * t + j0) 0 i)) (mm_pi P) := by
  have tm := tM
  have tr := tR
  have q1 := t101
  have q2 := t102
  have q3 := t103
  intro n
  induction n with
  | zero =>
    intro i v8 hi
    have e : i = n0 := by omega
    subst e
    refine ev_ild7 k234_28 ?_
    refine ev_ild5 k234_30 ?_
    refine ev_jcmp_ge k234_32 (fun h32 => ?_) (fun h32 => absurd h32 (nI_nlt (Nat.le_refl _) (by omega)))
    refine ev_ild5 k234_90 ?_
    refine ev_ri k234_92 rfl ?_
    exact hQ
  | succ n ih =>
    intro i v8 hi
    have hlt : i < n0 := by omega
    refine ev_ild7 k234_28 ?_
    refine ev_ild5 k234_30 ?_
    refine ev_jcmp_ge k234_32 (fun h32 => absurd (nI_lt hlt (by omega)) h32) (fun h32 => ?_)
    refine ev_ild2 k234_35 ?_
    refine ev_ild4 k234_36 ?_
    refine ev_jcmp_ge k234_38 (fun h38 => ?_) (fun h38 => absurd ((nI_ltI (show i0 < 2 ^ 31 by omega) (show j0 < 2 ^ 31 by omega)).mp h38) hd)
    refine ev_ild7 k234_51 ?_
    refine ev_ist8 k234_53 rfl ?_
    refine ev_ald0 k234_55 ?_
    refine ev_getr k234_56 (by first | assumption | rfl) rfl rfl rfl ?_
    refine ev_bipush k234_59 ?_
    refine ev_ild3 k234_61 ?_
    refine ev_imul k234_62 ?_
    refine ev_ild4 k234_63 ?_
    refine ev_iadd k234_65 ?_
    refine ev_ild8 k234_66 ?_
    refine ev_iadd k234_68 ?_
    rw [idxM]
    refine ev_ald0 k234_69 ?_
    refine ev_getr k234_70 (by first | assumption | rfl) rfl rfl rfl ?_
    refine ev_bipush k234_73 ?_
    refine ev_ild1 k234_75 ?_
    refine ev_imul k234_76 ?_
    refine ev_ild2 k234_77 ?_
    refine ev_iadd k234_78 ?_
    refine ev_ild8 k234_79 ?_
    refine ev_iadd k234_81 ?_
    rw [idxM]
    refine ev_ialv (j := (40 * s + i0 + i)) k234_82 (by first | assumption | rfl) (by omega) (nI_clamp (by omega)) (vp_in_nI (show 40 * s + i0 + i < 160 by omega) (by omega)) (show _ = J 103 (40 * s + i0 + i) from by rw [mm_rp_at]; exact if_neg (by omega)) ?_
    refine ev_ias (j := (40 * t + j0 + i)) k234_83 (by first | assumption | rfl) (nI_clamp (by omega)) (vp_in_nI (show 40 * t + j0 + i < 160 by omega) (by omega)) ?_
    refine ev_inc7 k234_84 rfl ?_
    refine ev_goto k234_87 ?_
    rw [nI_1, mm_rp_up, mvF_up _ _ _ _ _ (by omega)]
    exact ih (i + 1) _ (by omega)
theorem lm_moveB {X : Nat × (Nat → Int32)} {d : Nat} {J : mm_I} {s t i0 j0 n0 : Nat} {P : Int32 → mm_I → Prop} (hs : s < 4) (ht : t < 4) (h1 : i0 + n0 ≤ 40) (h2 : j0 + n0 ≤ 40) (hd : i0 < j0) (hQ : P (nI n0) (mm_rp J 103 (mvF (J 103) (40 * s + i0) (40 * t + j0) 0 n0))) : ∀ (n i : Nat) (v8 : Value), i + n = n0 → mm_Ev mm_T0 X (d + 20) 234 28 [.ref 91, .int (nI s), .int (nI i0), .int (nI t), .int (nI j0), .int (nI n0), .int 0, .int (nI i), v8] [] (mm_rp J 103 (mvF (J 103) (40 * s + i0) (40 * t + j0) (n0 - i) n0)) (mm_pi P) := by
  have tm := tM
  have tr := tR
  have q1 := t101
  have q2 := t102
  have q3 := t103
  intro n
  induction n with
  | zero =>
    intro i v8 hi
    have e : i = n0 := by omega
    subst e
    rw [Nat.sub_self]
    refine ev_ild7 k234_28 ?_
    refine ev_ild5 k234_30 ?_
    refine ev_jcmp_ge k234_32 (fun h32 => ?_) (fun h32 => absurd h32 (nI_nlt (Nat.le_refl _) (by omega)))
    refine ev_ild5 k234_90 ?_
    refine ev_ri k234_92 rfl ?_
    exact hQ
  | succ n ih =>
    intro i v8 hi
    have hlt : i < n0 := by omega
    refine ev_ild7 k234_28 ?_
    refine ev_ild5 k234_30 ?_
    refine ev_jcmp_ge k234_32 (fun h32 => absurd (nI_lt hlt (by omega)) h32) (fun h32 => ?_)
    refine ev_ild2 k234_35 ?_
    refine ev_ild4 k234_36 ?_
    refine ev_jcmp_ge k234_38 (fun h38 => absurd (nI_lt hd (by omega)) h38) (fun h38 => ?_)
    refine ev_ild5 k234_41 ?_
    refine ev_iconst k234_43 ?_
    refine ev_isub k234_44 ?_
    refine ev_ild7 k234_45 ?_
    refine ev_isub k234_47 ?_
    refine ev_goto k234_48 ?_
    rw [show nI n0 - 1 - nI i = nI (n0 - 1 - i) from by rw [show (1 : Int32) = nI 1 from rfl, pk_sub (by omega), pk_sub (by omega)]]
    refine ev_ist8 k234_53 rfl ?_
    refine ev_ald0 k234_55 ?_
    refine ev_getr k234_56 (by first | assumption | rfl) rfl rfl rfl ?_
    refine ev_bipush k234_59 ?_
    refine ev_ild3 k234_61 ?_
    refine ev_imul k234_62 ?_
    refine ev_ild4 k234_63 ?_
    refine ev_iadd k234_65 ?_
    refine ev_ild8 k234_66 ?_
    refine ev_iadd k234_68 ?_
    rw [idxM]
    refine ev_ald0 k234_69 ?_
    refine ev_getr k234_70 (by first | assumption | rfl) rfl rfl rfl ?_
    refine ev_bipush k234_73 ?_
    refine ev_ild1 k234_75 ?_
    refine ev_imul k234_76 ?_
    refine ev_ild2 k234_77 ?_
    refine ev_iadd k234_78 ?_
    refine ev_ild8 k234_79 ?_
    refine ev_iadd k234_81 ?_
    rw [idxM]
    refine ev_ialv (j := (40 * s + i0 + (n0 - 1 - i))) k234_82 (by first | assumption | rfl) (by omega) (nI_clamp (by omega)) (vp_in_nI (show 40 * s + i0 + (n0 - 1 - i) < 160 by omega) (by omega)) (show _ = J 103 (40 * s + i0 + (n0 - 1 - i)) from by rw [mm_rp_at]; exact if_neg (by omega)) ?_
    refine ev_ias (j := (40 * t + j0 + (n0 - 1 - i))) k234_83 (by first | assumption | rfl) (nI_clamp (by omega)) (vp_in_nI (show 40 * t + j0 + (n0 - 1 - i) < 160 by omega) (by omega)) ?_
    refine ev_inc7 k234_84 rfl ?_
    refine ev_goto k234_87 ?_
    rw [nI_1, mm_rp_up, show n0 - i = n0 - 1 - i + 1 by omega, mvF_dn _ _ _ _ _ (by omega), show n0 - 1 - i = n0 - (i + 1) by omega]
    exact ih (i + 1) _ (by omega)
theorem sh_move {I : mm_I} {s t i0 j0 n0 : Nat} {L : mm_I} (sh : shR I) (hs : s < 4) (ht : t < 4) (h1 : i0 + n0 ≤ 40) (h2 : j0 + n0 ≤ 40) (hL : L = mm_rp (mm_cp I (80 + 2 * s + 1) i0 (80 + 2 * t + 1) j0 n0) 103 (mvF (mm_cp I (80 + 2 * s + 1) i0 (80 + 2 * t + 1) j0 n0 103) (40 * s + i0) (40 * t + j0) 0 n0)) : (∀ k, ¬ (80 ≤ k ∧ k ≤ 87) → k ≠ 101 → k ≠ 102 → k ≠ 103 → L k = I k) ∧ shR L := by
  have g : ∀ k, k ≠ 80 + 2 * t + 1 → k ≠ 103 → L k = I k := fun k a b => by rw [hL, mm_rp_ne _ _ _ b, mm_cp_ne _ _ _ _ _ _ _ a]
  refine ⟨fun k h1 h2 h3 h4 => g k (by omega) h4, fun r hr => ?_⟩
  obtain ⟨n, b, c1, c2, c3, c4, c5, c6, c7⟩ := sh r hr
  refine ⟨n, b, c1, c2, ?_, ?_, ?_, ?_, fun j hj => ?_⟩
  · rw [g _ (by omega) (by omega)]; exact c3
  · rw [g _ (by omega) (by omega)]; exact c4
  · rw [g _ (by omega) (by omega)]; exact c5
  · rw [g _ (by omega) (by omega)]; exact c6
  · have e3 : L 103 (40 * r + j) = mvF (I 103) (40 * s + i0) (40 * t + j0) 0 n0 (40 * r + j) := by rw [hL, mm_rp_at, mm_cp_ne _ _ _ _ _ _ _ (by omega)]
    rw [e3]
    unfold mvF
    by_cases e : r = t
    · subst e
      have e4 : L (81 + 2 * r) j = va_cpy (I (80 + 2 * s + 1)) (I (80 + 2 * r + 1)) i0 j0 n0 j := by
        rw [hL, mm_rp_ne _ _ _ (by omega), show 81 + 2 * r = 80 + 2 * r + 1 by omega, mm_cp_same]
      rw [e4]
      by_cases q : j0 ≤ j ∧ j < j0 + n0
      · rw [pk_cpy_in q.1 q.2, if_pos (by omega)]
        obtain ⟨_, _, _, _, _, _, _, _, z7⟩ := sh s hs
        rw [show 80 + 2 * s + 1 = 81 + 2 * s by omega, z7 _ (by omega)]
        exact congrArg _ (by omega)
      · rw [pk_cpy_out (by omega), if_neg (by omega), show 80 + 2 * r + 1 = 81 + 2 * r by omega]
        exact c7 j hj
    · rw [g _ (by omega) (by omega), if_neg (by omega)]
      exact c7 j hj
/-- CV.move -/
theorem op_move {X : Nat × (Nat → Int32)} {d : Nat} {I : mm_I} {P : Int32 → mm_I → Prop} {a : Int32} {b : Int32} {e : Int32} {f : Int32} {w : Int32} (inv : Inv I) (hQ : ∀ v J, mm_Ev mm_T0 X (d + 60) 234 0 (mm_ent 234 [.ref 91, .int a, .int b, .int e, .int f, .int w]) [] J (mm_pi fun w K => w = v ∧ Inv K) → P v J) : mm_Ev mm_T0 X (d + 60) 107 0 (mm_ent 107 [.ref 0, .int a, .int b, .int e, .int f, .int w]) [] I (mm_pi P) := by
  show mm_Ev mm_T0 X (d + 60) 107 0 [.ref 0, .int a, .int b, .int e, .int f, .int w, .retAddr 0, .retAddr 0] [] I (mm_pi P)
  obtain ⟨nc, np, hs⟩ := inv.1
  obtain ⟨c1, n6, p1, p6, rc, rp, rm, ok, sr, tt⟩ := hsF hs
  have t0 := tCV
  have tm := tM
  have tr := tR
  have q1 := t101
  have q2 := t102
  have q3 := t103
  refine ev_ild1 k107_0 ?_
  refine ev_cS1i k107_1 cs_206 rfl rfl rfl ?_
  refine sp_isSheet ?_
  refine ev_ifz_eq k107_4 (fun h4 => ?_) (fun h4 => ?_)
  ·
    refine ev_ald0 k107_14 ?_
    refine ev_ldc k107_15 ?_
    refine ev_cV2i k107_17 cs_174 (by first | assumption | rfl) (by omega) (Nat.le_of_ble_eq_true rfl) rfl rfl rfl ?_
    refine sp_error (k := 1) (by decide) (by decide) (by decide) ?_
    refine ev_ri k107_20 rfl ?_
    refine hQ _ _ ?_
    show mm_Ev mm_T0 X (d + 60) 234 0 [.ref 91, .int _, .int _, .int _, .int _, .int _, .retAddr 0, .retAddr 0, .retAddr 0] [] _ (mm_pi _)
    refine ev_ald0 k234_0 ?_
    refine ev_ild1 k234_1 ?_
    refine ev_ild2 k234_2 ?_
    refine ev_ild3 k234_3 ?_
    refine ev_ild4 k234_4 ?_
    refine ev_ild5 k234_6 ?_
    refine ev_cV6i k234_8 cs_289 (by first | assumption | rfl) (by omega) (Nat.le_of_ble_eq_true rfl) rfl rfl rfl ?_
    refine nm_A h4 ?_
    refine ev_ist6 k234_11 rfl ?_
    refine ev_ild6 k234_13 ?_
    refine ev_if_eq k234_15 (fun g15 => absurd g15 (by decide)) (fun g15 => ?_)
    refine ev_ald0 k234_18 ?_
    refine ev_ild6 k234_19 ?_
    refine ev_cV2i k234_21 cs_238 (by first | assumption | rfl) (by omega) (Nat.le_of_ble_eq_true rfl) rfl rfl rfl ?_
    refine sm_error (k := 1) (by decide) (by decide) ?_
    refine ev_ri k234_24 rfl ?_
    first | exact ⟨rfl, Inv_e rfl rfl inv⟩ | exact ⟨rfl, inv⟩
  ·
    obtain ⟨s, hs4, rfl⟩ := wB_le (hi := 3) (by omega) h4
    replace hs4 : s < 4 := by omega
    obtain ⟨ls, bs, hls, hbs, c1s, c2s, c3s, c4s, c5s⟩ := inv.2.2.2.2.1 s hs4
    have st0 := tS0 hs4
    have st1 := tS1 hs4
    refine ev_ild3 k107_7 ?_
    refine ev_cS1i k107_8 cs_206 rfl rfl rfl ?_
    refine sp_isSheet ?_
    refine ev_ifz_ne k107_11 (fun h11 => ?_) (fun h11 => ?_)
    ·
      obtain ⟨t, ht4, rfl⟩ := wB_le (hi := 3) (by omega) h11
      replace ht4 : t < 4 := by omega
      obtain ⟨lt, bt, hlt, hbt, c1t, c2t, c3t, c4t, c5t⟩ := inv.2.2.2.2.1 t ht4
      have tt0 := tS0 ht4
      have tt1 := tS1 ht4
      refine ev_ald0 k107_21 ?_
      refine ev_ild1 k107_22 ?_
      refine ev_cV2i k107_23 cs_218 (by first | assumption | rfl) (by omega) (Nat.le_of_ble_eq_true rfl) rfl rfl rfl ?_
      refine sp_isMissing hs4 c1s ?_
      refine ev_ifz_ne k107_26 (fun h26 => ?_) (fun h26 => ?_)
      ·
        refine ev_ald0 k107_37 ?_
        refine ev_ldc k107_38 ?_
        refine ev_cV2i k107_40 cs_174 (by first | assumption | rfl) (by omega) (Nat.le_of_ble_eq_true rfl) rfl rfl rfl ?_
        refine sp_error (k := 2) (by decide) (by decide) (by decide) ?_
        refine ev_ri k107_43 rfl ?_
        refine hQ _ _ ?_
        show mm_Ev mm_T0 X (d + 60) 234 0 [.ref 91, .int _, .int _, .int _, .int _, .int _, .retAddr 0, .retAddr 0, .retAddr 0] [] _ (mm_pi _)
        refine ev_ald0 k234_0 ?_
        refine ev_ild1 k234_1 ?_
        refine ev_ild2 k234_2 ?_
        refine ev_ild3 k234_3 ?_
        refine ev_ild4 k234_4 ?_
        refine ev_ild5 k234_6 ?_
        refine ev_cV6i k234_8 cs_289 (by first | assumption | rfl) (by omega) (Nat.le_of_ble_eq_true rfl) rfl rfl rfl ?_
        refine nm_C h4 h11 hs4 ht4 (show _ = _ from c2s) (show _ = _ from c2t) (of_decide_eq_true h26) ?_
        refine ev_ist6 k234_11 rfl ?_
        refine ev_ild6 k234_13 ?_
        refine ev_if_eq k234_15 (fun g15 => absurd g15 (by decide)) (fun g15 => ?_)
        refine ev_ald0 k234_18 ?_
        refine ev_ild6 k234_19 ?_
        refine ev_cV2i k234_21 cs_238 (by first | assumption | rfl) (by omega) (Nat.le_of_ble_eq_true rfl) rfl rfl rfl ?_
        refine sm_error (k := 2) (by decide) (by decide) ?_
        refine ev_ri k234_24 rfl ?_
        first | exact ⟨rfl, Inv_e rfl rfl inv⟩ | exact ⟨rfl, inv⟩
      ·
        refine ev_ald0 k107_29 ?_
        refine ev_ild3 k107_30 ?_
        refine ev_cV2i k107_31 cs_218 (by first | assumption | rfl) (by omega) (Nat.le_of_ble_eq_true rfl) rfl rfl rfl ?_
        refine sp_isMissing ht4 c1t ?_
        refine ev_ifz_eq k107_34 (fun h34 => ?_) (fun h34 => ?_)
        ·
          refine ev_ald0 k107_44 ?_
          refine ev_getr k107_45 (by first | assumption | rfl) rfl rfl rfl ?_
          refine ev_ild1 k107_48 ?_
          refine ev_aaload k107_49 (by first | assumption | rfl) (by decide) (vp_in_nI (show s < 4 by omega) (by decide)) (tSa hs4) ?_
          refine ev_ast6 k107_50 rfl ?_
          refine ev_ald0 k107_52 ?_
          refine ev_getr k107_53 (by first | assumption | rfl) rfl rfl rfl ?_
          refine ev_ild3 k107_56 ?_
          refine ev_aaload k107_57 (by first | assumption | rfl) (by decide) (vp_in_nI (show t < 4 by omega) (by decide)) (tSa ht4) ?_
          refine ev_ast7 k107_58 rfl ?_
          refine ev_ald6 k107_60 ?_
          refine ev_gfv (j := 1) k107_62 (by first | assumption | rfl) rfl rfl rfl rfl c1s ?_
          refine ev_ald7 k107_65 ?_
          refine ev_gfv (j := 1) k107_67 (by first | assumption | rfl) rfl rfl rfl rfl c1t ?_
          refine ev_icmp_eq k107_70 (fun h70 => ?_) (fun h70 => ?_)
          ·
            refine ev_ald6 k107_80 ?_
            refine ev_ild2 k107_82 ?_
            refine ev_ild5 k107_83 ?_
            refine ev_cV3i k107_85 cs_220 (by first | assumption | rfl) (by omega) (Nat.le_of_ble_eq_true rfl) rfl rfl rfl ?_
            refine sp_spansv st0 c3s ?_
            refine ev_ifz_eq k107_88 (fun h88 => ?_) (fun h88 => ?_)
            ·
              refine ev_ald0 k107_103 ?_
              refine ev_ldc k107_104 ?_
              refine ev_cV2i k107_106 cs_174 (by first | assumption | rfl) (by omega) (Nat.le_of_ble_eq_true rfl) rfl rfl rfl ?_
              refine sp_error (k := 1) (by decide) (by decide) (by decide) ?_
              refine ev_ri k107_109 rfl ?_
              refine hQ _ _ ?_
              show mm_Ev mm_T0 X (d + 60) 234 0 [.ref 91, .int _, .int _, .int _, .int _, .int _, .retAddr 0, .retAddr 0, .retAddr 0] [] _ (mm_pi _)
              refine ev_ald0 k234_0 ?_
              refine ev_ild1 k234_1 ?_
              refine ev_ild2 k234_2 ?_
              refine ev_ild3 k234_3 ?_
              refine ev_ild4 k234_4 ?_
              refine ev_ild5 k234_6 ?_
              refine ev_cV6i k234_8 cs_289 (by first | assumption | rfl) (by omega) (Nat.le_of_ble_eq_true rfl) rfl rfl rfl ?_
              refine nm_G h4 h11 hs4 ht4 (show _ = _ from c2s) (show _ = _ from c2t) (of_decide_eq_false h26) (of_decide_eq_false h34) h70 c4s c4t hls hlt (fun z => Bool.noConfusion (Eq.trans (Eq.symm z.1) h88)) ?_
              refine ev_ist6 k234_11 rfl ?_
              refine ev_ild6 k234_13 ?_
              refine ev_if_eq k234_15 (fun g15 => absurd g15 (by decide)) (fun g15 => ?_)
              refine ev_ald0 k234_18 ?_
              refine ev_ild6 k234_19 ?_
              refine ev_cV2i k234_21 cs_238 (by first | assumption | rfl) (by omega) (Nat.le_of_ble_eq_true rfl) rfl rfl rfl ?_
              refine sm_error (k := 1) (by decide) (by decide) ?_
              refine ev_ri k234_24 rfl ?_
              first | exact ⟨rfl, Inv_e rfl rfl inv⟩ | exact ⟨rfl, inv⟩
            ·
              refine ev_ald7 k107_91 ?_
              refine ev_ild4 k107_93 ?_
              refine ev_ild5 k107_95 ?_
              refine ev_cV3i k107_97 cs_220 (by first | assumption | rfl) (by omega) (Nat.le_of_ble_eq_true rfl) rfl rfl rfl ?_
              refine sp_spansv tt0 c3t ?_
              refine ev_ifz_ne k107_100 (fun h100 => ?_) (fun h100 => ?_)
              ·
                obtain ⟨i0, n0, rfl, rfl, e1⟩ := spB_t hls h88
                obtain ⟨j0, n1, rfl, en, e2⟩ := spB_t hlt h100
                have en2 : n1 = n0 := ((nI_eq (by omega) (by omega)).mp en).symm
                subst en2
                clear en
                refine ev_ald7 k107_110 ?_
                refine ev_ald6 k107_112 ?_
                refine ev_ild2 k107_114 ?_
                refine ev_ild4 k107_115 ?_
                refine ev_ild5 k107_117 ?_
                refine ev_cV5v k107_119 cs_221 (by first | assumption | rfl) (by omega) (Nat.le_of_ble_eq_true rfl) rfl rfl rfl ?_
                refine sp_take tt0 tt1 (by omega) st0 st1 (by omega) rfl rfl rfl c3t c3s e1 e2 hlt hls (by decide) (by decide) ?_
                refine ev_ild5 k107_122 ?_
                refine ev_ri k107_124 rfl ?_
                refine hQ _ _ ?_
                show mm_Ev mm_T0 X (d + 60) 234 0 [.ref 91, .int _, .int _, .int _, .int _, .int _, .retAddr 0, .retAddr 0, .retAddr 0] [] _ (mm_pi _)
                refine ev_ald0 k234_0 ?_
                refine ev_ild1 k234_1 ?_
                refine ev_ild2 k234_2 ?_
                refine ev_ild3 k234_3 ?_
                refine ev_ild4 k234_4 ?_
                refine ev_ild5 k234_6 ?_
                refine ev_cV6i k234_8 cs_289 (by first | assumption | rfl) (by omega) (Nat.le_of_ble_eq_true rfl) rfl rfl rfl ?_
                refine nm_F h4 h11 hs4 ht4 (show _ = _ from (congrFun (mm_cp_ne _ _ _ _ _ _ _ (by omega)) _).trans c2s) (show _ = _ from (congrFun (mm_cp_ne _ _ _ _ _ _ _ (by omega)) _).trans c2t) (of_decide_eq_false h26) (of_decide_eq_false h34) h70 ((congrFun (mm_cp_ne _ _ _ _ _ _ _ (by omega)) _).trans c4s) ((congrFun (mm_cp_ne _ _ _ _ _ _ _ (by omega)) _).trans c4t) hls hlt e1 e2 ?_
                refine ev_ist6 k234_11 rfl ?_
                refine ev_ild6 k234_13 ?_
                refine ev_if_eq k234_15 (fun g15 => ?_) (fun g15 => absurd rfl g15)
                refine ev_iconst k234_25 ?_
                refine ev_ist7 k234_26 rfl ?_
                have ez : ∀ K : mm_I, ∀ q, mm_rp K 103 (mvF (K 103) (40 * s + i0) (40 * t + j0) q q) = K := fun K q => by rw [mvF_0, mm_rp_self]
                generalize hK : mm_cp I (80 + 2 * s + 1) i0 (80 + 2 * t + 1) j0 n1 = K
                have fin : Inv (mm_rp K 103 (mvF (K 103) (40 * s + i0) (40 * t + j0) 0 n1)) := by
                  obtain ⟨z1, z2⟩ := sh_move inv.2.2.2.2.1 hs4 ht4 (show i0 + n1 ≤ 40 by omega) (show j0 + n1 ≤ 40 by omega) rfl
                  rw [hK] at z1 z2
                  exact Inv_sh inv z1 z2
                by_cases hd : i0 < j0
                · rw [← ez K n1]
                  exact lm_moveB (J := K) (i0 := i0) (j0 := j0) (n0 := n1) hs4 ht4 (by omega) (by omega) hd ⟨rfl, fin⟩ n1 0 (.retAddr 0) (by omega)
                · rw [← ez K 0]
                  exact lm_moveF (J := K) (i0 := i0) (j0 := j0) (n0 := n1) hs4 ht4 (by omega) (by omega) hd ⟨rfl, fin⟩ n1 0 (.retAddr 0) (by omega)
              ·
                refine ev_ald0 k107_103 ?_
                refine ev_ldc k107_104 ?_
                refine ev_cV2i k107_106 cs_174 (by first | assumption | rfl) (by omega) (Nat.le_of_ble_eq_true rfl) rfl rfl rfl ?_
                refine sp_error (k := 1) (by decide) (by decide) (by decide) ?_
                refine ev_ri k107_109 rfl ?_
                refine hQ _ _ ?_
                show mm_Ev mm_T0 X (d + 60) 234 0 [.ref 91, .int _, .int _, .int _, .int _, .int _, .retAddr 0, .retAddr 0, .retAddr 0] [] _ (mm_pi _)
                refine ev_ald0 k234_0 ?_
                refine ev_ild1 k234_1 ?_
                refine ev_ild2 k234_2 ?_
                refine ev_ild3 k234_3 ?_
                refine ev_ild4 k234_4 ?_
                refine ev_ild5 k234_6 ?_
                refine ev_cV6i k234_8 cs_289 (by first | assumption | rfl) (by omega) (Nat.le_of_ble_eq_true rfl) rfl rfl rfl ?_
                refine nm_G h4 h11 hs4 ht4 (show _ = _ from c2s) (show _ = _ from c2t) (of_decide_eq_false h26) (of_decide_eq_false h34) h70 c4s c4t hls hlt (fun z => Bool.noConfusion (Eq.trans (Eq.symm z.2) h100)) ?_
                refine ev_ist6 k234_11 rfl ?_
                refine ev_ild6 k234_13 ?_
                refine ev_if_eq k234_15 (fun g15 => absurd g15 (by decide)) (fun g15 => ?_)
                refine ev_ald0 k234_18 ?_
                refine ev_ild6 k234_19 ?_
                refine ev_cV2i k234_21 cs_238 (by first | assumption | rfl) (by omega) (Nat.le_of_ble_eq_true rfl) rfl rfl rfl ?_
                refine sm_error (k := 1) (by decide) (by decide) ?_
                refine ev_ri k234_24 rfl ?_
                first | exact ⟨rfl, Inv_e rfl rfl inv⟩ | exact ⟨rfl, inv⟩
          ·
            refine ev_ald0 k107_73 ?_
            refine ev_ldc k107_74 ?_
            refine ev_cV2i k107_76 cs_174 (by first | assumption | rfl) (by omega) (Nat.le_of_ble_eq_true rfl) rfl rfl rfl ?_
            refine sp_error (k := 5) (by decide) (by decide) (by decide) ?_
            refine ev_ri k107_79 rfl ?_
            refine hQ _ _ ?_
            show mm_Ev mm_T0 X (d + 60) 234 0 [.ref 91, .int _, .int _, .int _, .int _, .int _, .retAddr 0, .retAddr 0, .retAddr 0] [] _ (mm_pi _)
            refine ev_ald0 k234_0 ?_
            refine ev_ild1 k234_1 ?_
            refine ev_ild2 k234_2 ?_
            refine ev_ild3 k234_3 ?_
            refine ev_ild4 k234_4 ?_
            refine ev_ild5 k234_6 ?_
            refine ev_cV6i k234_8 cs_289 (by first | assumption | rfl) (by omega) (Nat.le_of_ble_eq_true rfl) rfl rfl rfl ?_
            refine nm_E h4 h11 hs4 ht4 (show _ = _ from c2s) (show _ = _ from c2t) (of_decide_eq_false h26) (of_decide_eq_false h34) h70 ?_
            refine ev_ist6 k234_11 rfl ?_
            refine ev_ild6 k234_13 ?_
            refine ev_if_eq k234_15 (fun g15 => absurd g15 (by decide)) (fun g15 => ?_)
            refine ev_ald0 k234_18 ?_
            refine ev_ild6 k234_19 ?_
            refine ev_cV2i k234_21 cs_238 (by first | assumption | rfl) (by omega) (Nat.le_of_ble_eq_true rfl) rfl rfl rfl ?_
            refine sm_error (k := 5) (by decide) (by decide) ?_
            refine ev_ri k234_24 rfl ?_
            first | exact ⟨rfl, Inv_e rfl rfl inv⟩ | exact ⟨rfl, inv⟩
        ·
          refine ev_ald0 k107_37 ?_
          refine ev_ldc k107_38 ?_
          refine ev_cV2i k107_40 cs_174 (by first | assumption | rfl) (by omega) (Nat.le_of_ble_eq_true rfl) rfl rfl rfl ?_
          refine sp_error (k := 2) (by decide) (by decide) (by decide) ?_
          refine ev_ri k107_43 rfl ?_
          refine hQ _ _ ?_
          show mm_Ev mm_T0 X (d + 60) 234 0 [.ref 91, .int _, .int _, .int _, .int _, .int _, .retAddr 0, .retAddr 0, .retAddr 0] [] _ (mm_pi _)
          refine ev_ald0 k234_0 ?_
          refine ev_ild1 k234_1 ?_
          refine ev_ild2 k234_2 ?_
          refine ev_ild3 k234_3 ?_
          refine ev_ild4 k234_4 ?_
          refine ev_ild5 k234_6 ?_
          refine ev_cV6i k234_8 cs_289 (by first | assumption | rfl) (by omega) (Nat.le_of_ble_eq_true rfl) rfl rfl rfl ?_
          refine nm_D h4 h11 hs4 ht4 (show _ = _ from c2s) (show _ = _ from c2t) (of_decide_eq_false h26) (of_decide_eq_true h34) ?_
          refine ev_ist6 k234_11 rfl ?_
          refine ev_ild6 k234_13 ?_
          refine ev_if_eq k234_15 (fun g15 => absurd g15 (by decide)) (fun g15 => ?_)
          refine ev_ald0 k234_18 ?_
          refine ev_ild6 k234_19 ?_
          refine ev_cV2i k234_21 cs_238 (by first | assumption | rfl) (by omega) (Nat.le_of_ble_eq_true rfl) rfl rfl rfl ?_
          refine sm_error (k := 2) (by decide) (by decide) ?_
          refine ev_ri k234_24 rfl ?_
          first | exact ⟨rfl, Inv_e rfl rfl inv⟩ | exact ⟨rfl, inv⟩
    ·
      refine ev_ald0 k107_14 ?_
      refine ev_ldc k107_15 ?_
      refine ev_cV2i k107_17 cs_174 (by first | assumption | rfl) (by omega) (Nat.le_of_ble_eq_true rfl) rfl rfl rfl ?_
      refine sp_error (k := 1) (by decide) (by decide) (by decide) ?_
      refine ev_ri k107_20 rfl ?_
      refine hQ _ _ ?_
      show mm_Ev mm_T0 X (d + 60) 234 0 [.ref 91, .int _, .int _, .int _, .int _, .int _, .retAddr 0, .retAddr 0, .retAddr 0] [] _ (mm_pi _)
      refine ev_ald0 k234_0 ?_
      refine ev_ild1 k234_1 ?_
      refine ev_ild2 k234_2 ?_
      refine ev_ild3 k234_3 ?_
      refine ev_ild4 k234_4 ?_
      refine ev_ild5 k234_6 ?_
      refine ev_cV6i k234_8 cs_289 (by first | assumption | rfl) (by omega) (Nat.le_of_ble_eq_true rfl) rfl rfl rfl ?_
      refine nm_B h4 h11 ?_
      refine ev_ist6 k234_11 rfl ?_
      refine ev_ild6 k234_13 ?_
      refine ev_if_eq k234_15 (fun g15 => absurd g15 (by decide)) (fun g15 => ?_)
      refine ev_ald0 k234_18 ?_
      refine ev_ild6 k234_19 ?_
      refine ev_cV2i k234_21 cs_238 (by first | assumption | rfl) (by omega) (Nat.le_of_ble_eq_true rfl) rfl rfl rfl ?_
      refine sm_error (k := 1) (by decide) (by decide) ?_
      refine ev_ri k234_24 rfl ?_
      first | exact ⟨rfl, Inv_e rfl rfl inv⟩ | exact ⟨rfl, inv⟩
