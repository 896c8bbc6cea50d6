/-! The reference: weights and votes -/
/-- the texts of a house S, in the class's steps and in the reference's -/
def TR (S I : mm_I) : Prop := ((I 92 119 = 0 ∧ hL0 S 0 = 1 ∧ S 11 0 = 1) ∨ (I 92 119 = nI (hL0 S 0) ∧ (∀ i, i < hL0 S 0 → stR (S 11 i) (I 92 (119 + 1 + i)) (I 92 (119 + 51 + i))) ∧ okS (S 11) (hL0 S 0) 0 0)) ∧ ((I 92 220 = 0 ∧ hL1 S 0 = 5 ∧ S 15 0 = -1 ∧ S 15 1 = 10 ∧ S 15 2 = -42 ∧ S 15 3 = -2 ∧ S 15 4 = -45) ∨ (I 92 220 = nI (hL1 S 0) ∧ (∀ i, i < hL1 S 0 → stR (S 15 i) (I 92 (220 + 1 + i)) (I 92 (220 + 51 + i))) ∧ okS (S 15) (hL1 S 0) 0 0))
def sc (I J : mm_I) : Prop := ∀ k, k ≠ 98 → k ≠ 99 → J k = I k
theorem RM_congr {S I J : mm_I} {nc np : Nat} (h : J 92 = I 92) (rm : RM S I nc np) : RM S J nc np := by
  unfold RM at *
  rw [h]
  exact rm
theorem TR_congr {S I J : mm_I} (h : J 92 = I 92) (t : TR S I) : TR S J := by
  unfold TR at *
  rw [h]
  exact t
theorem held_clp {lo hi v : Int32} (h : ¬ hi < lo) : (if v < lo then lo else if hi < v then hi else v) = clp lo hi v := by
  have hle := Int32.not_lt.mp h
  unfold clp
  have L : ∀ {a b : Int32}, a < b ↔ a.toInt < b.toInt := Int32.lt_iff_toInt_lt
  have E : ∀ {a b : Int32}, a ≤ b ↔ a.toInt ≤ b.toInt := Int32.le_iff_toInt_le
  rw [E] at hle
  by_cases h1 : v < lo
  · have h1' := L.mp h1
    rw [if_pos h1]
    by_cases h2 : v < hi
    · rw [if_pos h2, if_neg (fun z => by have := L.mp z; omega)]
    · have h2' : ¬ v.toInt < hi.toInt := fun z => h2 (L.mpr z)
      omega
  · have h1' : ¬ v.toInt < lo.toInt := fun z => h1 (L.mpr z)
    rw [if_neg h1]
    by_cases h2 : hi < v
    · have h2' := L.mp h2
      rw [if_pos h2, if_neg (show ¬ v < hi from fun z => by have := L.mp z; omega)]
      by_cases h3 : lo < hi
      · rw [if_pos h3]
      · rw [if_neg h3]
        apply Int32.toInt_inj.mp
        have h3' : ¬ lo.toInt < hi.toInt := fun z => h3 (L.mpr z)
        omega
    · have h2' : ¬ hi.toInt < v.toInt := fun z => h2 (L.mpr z)
      rw [if_neg h2]
      have e : (if v < hi then v else hi) = v := by
        by_cases h3 : v < hi
        · rw [if_pos h3]
        · rw [if_neg h3]
          apply Int32.toInt_inj.mp
          have h3' : ¬ v.toInt < hi.toInt := fun z => h3 (L.mpr z)
          omega
      rw [e]
      by_cases h4 : lo < v
      · rw [if_pos h4]
      · rw [if_neg h4]
        apply Int32.toInt_inj.mp
        have h4' : ¬ lo.toInt < v.toInt := fun z => h4 (L.mpr z)
        omega
theorem tx_one {f : Nat → Int32} (h : f 0 = 1) (a b c : Int32) : tx f 1 a b c = 1 := by
  show (ts a b c (f 0) (0, fun _ => 0)).2 0 = 1
  rw [h]
  rfl
theorem tx_zeal {f : Nat → Int32} (h0 : f 0 = -1) (h1 : f 1 = 10) (h2 : f 2 = -42) (h3 : f 3 = -2) (h4 : f 4 = -45) (a b c : Int32) : tx f 5 a b c = 10 * a - b := by
  show (ts a b c (f 4) (ts a b c (f 3) (ts a b c (f 2) (ts a b c (f 1) (ts a b c (f 0) (0, fun _ => 0)))))).2 0 = 10 * a - b
  rw [h0, h1, h2, h3, h4]
  have e0 : ts a b c (-1) (0, fun _ => 0) = (1, upd (fun _ => 0) 0 a) := rfl
  have e1 : ∀ g, ts a b c 10 (1, g) = (2, upd g 1 10) := fun g => rfl
  have e2 : ∀ g, ts a b c (-42) (2, g) = (1, upd g 0 (jn 42 (g 0) (g 1))) := fun g => rfl
  have e3 : ∀ g, ts a b c (-2) (1, g) = (2, upd g 1 b) := fun g => rfl
  have e4 : ∀ g, ts a b c (-45) (2, g) = (1, upd g 0 (jn 45 (g 0) (g 1))) := fun g => rfl
  rw [e0, e1, e2, e3, e4]
  simp [upd, jn]
  rw [Int32.mul_comm]
/-- Model.gives -/
theorem sm_gives0 {X : Nat × (Nat → Int32)} {d : Nat} {I : mm_I} {S : mm_I} {nc : Nat} {a b c : Int32} {P : Int32 → mm_I → Prop} (ok : hOK S 0 nc) (t : TR S I) (hQ : ∀ J, sc I J → P (hGv S 0 a b c) J) : mm_Ev mm_T0 X (d + 2) 185 0 (mm_ent 185 [.ref 91, .int 0, .int a, .int b, .int c]) [] I (mm_pi P) := by
  show mm_Ev mm_T0 X (d + 2) 185 0 [.ref 91, .int 0, .int a, .int b, .int c, .retAddr 0, .retAddr 0] [] I (mm_pi P)
  have tm := tM
  have tr := tR
  have tf := tMf
  have tp := tMp
  rcases t.1 with ⟨d0, d1, d2⟩ | ⟨d0, d1, d2⟩
  ·
    refine ev_bipush k185_0 ?_
    refine ev_bipush k185_2 ?_
    refine ev_ild1 k185_4 ?_
    refine ev_imul k185_5 ?_
    refine ev_iadd k185_6 ?_
    rw [show (119 : Int32) + 101 * 0 = nI 119 from by decide]
    refine ev_ist5 k185_7 rfl ?_
    refine ev_ald0 k185_9 ?_
    refine ev_getr k185_10 (by first | assumption | rfl) rfl rfl rfl ?_
    refine ev_iconst k185_13 ?_
    refine ev_ild2 k185_14 ?_
    refine ev_ias (j := 0) k185_15 (by first | assumption | rfl) rfl (vp_dec rfl) ?_
    refine ev_ald0 k185_16 ?_
    refine ev_getr k185_17 (by first | assumption | rfl) rfl rfl rfl ?_
    refine ev_iconst k185_20 ?_
    refine ev_ild3 k185_21 ?_
    refine ev_ias (j := 1) k185_22 (by first | assumption | rfl) rfl (vp_dec rfl) ?_
    refine ev_ald0 k185_23 ?_
    refine ev_getr k185_24 (by first | assumption | rfl) rfl rfl rfl ?_
    refine ev_iconst k185_27 ?_
    refine ev_ild4 k185_28 ?_
    refine ev_ias (j := 2) k185_30 (by first | assumption | rfl) rfl (vp_dec rfl) ?_
    generalize hJ : mm_up (mm_up (mm_up I 98 0 a) 98 1 b) 98 2 c = J
    have j0 : J 98 0 = a := by rw [← hJ]; simp [mm_up_at]
    have j1 : J 98 1 = b := by rw [← hJ]; simp [mm_up_at]
    have j2 : J 98 2 = c := by rw [← hJ]; simp [mm_up_at]
    have jn : ∀ k, k ≠ 98 → J k = I k := fun k hk => by rw [← hJ, mm_up_ne _ _ _ _ _ hk, mm_up_ne _ _ _ _ _ hk, mm_up_ne _ _ _ _ _ hk]
    clear hJ
    refine ev_ald0 k185_31 ?_
    refine ev_getr k185_32 (by first | assumption | rfl) rfl rfl rfl ?_
    refine ev_ild5 k185_35 ?_
    refine ev_ial (j := 119) k185_37 (by first | assumption | rfl) (by omega) (nI_clamp (by decide)) (vp_in_nI (show 119 < 321 by decide) (by decide)) ?_
    rw [jn 92 (by decide)]
    refine ev_jf_le k185_38 (fun h38 => ?_) (fun h38 => absurd h38 (by rw [d0]; decide))
    refine ev_ild1 k185_50 ?_
    refine ev_if_ne k185_51 (fun h51 => absurd rfl h51) (fun h51 => ?_)
    refine ev_iconst k185_54 ?_
    refine ev_goto k185_55 ?_
    refine ev_ist6 k185_64 rfl ?_
    refine ev_ild1 k185_66 ?_
    refine ev_if_ne k185_67 (fun h67 => absurd rfl h67) (fun h67 => ?_)
    refine ev_ild6 k185_70 ?_
    refine ev_iconst k185_72 ?_
    refine ev_bipush k185_73 ?_
    refine ev_cS3i k185_75 cs_259 rfl rfl rfl ?_
    refine sp_held ?_
    refine ev_goto k185_78 ?_
    refine ev_ri k185_90 rfl ?_
    have hv := hQ J (fun k h1 _ => jn k h1)
    rw [show hGv S 0 a b c = 1 from by unfold hGv; rw [d1, show S (0 + 11) = S 11 from rfl, tx_one d2]; decide] at hv
    exact hv
  ·
    refine ev_bipush k185_0 ?_
    refine ev_bipush k185_2 ?_
    refine ev_ild1 k185_4 ?_
    refine ev_imul k185_5 ?_
    refine ev_iadd k185_6 ?_
    rw [show (119 : Int32) + 101 * 0 = nI 119 from by decide]
    refine ev_ist5 k185_7 rfl ?_
    refine ev_ald0 k185_9 ?_
    refine ev_getr k185_10 (by first | assumption | rfl) rfl rfl rfl ?_
    refine ev_iconst k185_13 ?_
    refine ev_ild2 k185_14 ?_
    refine ev_ias (j := 0) k185_15 (by first | assumption | rfl) rfl (vp_dec rfl) ?_
    refine ev_ald0 k185_16 ?_
    refine ev_getr k185_17 (by first | assumption | rfl) rfl rfl rfl ?_
    refine ev_iconst k185_20 ?_
    refine ev_ild3 k185_21 ?_
    refine ev_ias (j := 1) k185_22 (by first | assumption | rfl) rfl (vp_dec rfl) ?_
    refine ev_ald0 k185_23 ?_
    refine ev_getr k185_24 (by first | assumption | rfl) rfl rfl rfl ?_
    refine ev_iconst k185_27 ?_
    refine ev_ild4 k185_28 ?_
    refine ev_ias (j := 2) k185_30 (by first | assumption | rfl) rfl (vp_dec rfl) ?_
    generalize hJ : mm_up (mm_up (mm_up I 98 0 a) 98 1 b) 98 2 c = J
    have j0 : J 98 0 = a := by rw [← hJ]; simp [mm_up_at]
    have j1 : J 98 1 = b := by rw [← hJ]; simp [mm_up_at]
    have j2 : J 98 2 = c := by rw [← hJ]; simp [mm_up_at]
    have jn : ∀ k, k ≠ 98 → J k = I k := fun k hk => by rw [← hJ, mm_up_ne _ _ _ _ _ hk, mm_up_ne _ _ _ _ _ hk, mm_up_ne _ _ _ _ _ hk]
    clear hJ
    refine ev_ald0 k185_31 ?_
    refine ev_getr k185_32 (by first | assumption | rfl) rfl rfl rfl ?_
    refine ev_ild5 k185_35 ?_
    refine ev_ial (j := 119) k185_37 (by first | assumption | rfl) (by omega) (nI_clamp (by decide)) (vp_in_nI (show 119 < 321 by decide) (by decide)) ?_
    rw [jn 92 (by decide)]
    refine ev_jf_le k185_38 (fun h38 => absurd (show 0 < I 92 119 by rw [d0]; exact nI_lt (a := 0) (by have := ok.2.2.2.1.2.1.1; omega) (by have := ok.2.2.2.1.2.1.2.1; omega)) h38) (fun h38 => ?_)
    refine ev_ald0 k185_41 ?_
    refine ev_ild5 k185_42 ?_
    refine ev_cV2i k185_44 cs_258 (by first | assumption | rfl) (by omega) (Nat.le_of_ble_eq_true rfl) rfl rfl rfl ?_
    refine sm_works (f := S 11) (l := hL0 S 0) (at0 := 119) (by decide) (by rw [jn 92 (by decide)]; exact d0) ok.2.2.2.1.2.1.2.1 (by rw [jn 92 (by decide)]; exact d1) d2 ?_
    rw [j0, j1, j2, tx_eq (show tWF (S 11) (hL0 S 0) from ok.2.2.2.1.2.1)]
    generalize (tv (S 11) a b c (hL0 S 0) 0 (0, J 99)).2 = g
    refine ev_goto k185_47 ?_
    refine ev_ist6 k185_64 rfl ?_
    refine ev_ild1 k185_66 ?_
    refine ev_if_ne k185_67 (fun h67 => absurd rfl h67) (fun h67 => ?_)
    refine ev_ild6 k185_70 ?_
    refine ev_iconst k185_72 ?_
    refine ev_bipush k185_73 ?_
    refine ev_cS3i k185_75 cs_259 rfl rfl rfl ?_
    refine sp_held ?_
    refine ev_goto k185_78 ?_
    refine ev_ri k185_90 rfl ?_
    rw [held_clp (by decide)]
    refine hQ _ (fun k h1 h2 => ?_)
    rw [mm_rp_ne _ _ _ h2]
    exact jn k h1
/-- Model.gives -/
theorem sm_gives1 {X : Nat × (Nat → Int32)} {d : Nat} {I : mm_I} {S : mm_I} {nc : Nat} {a b c : Int32} {P : Int32 → mm_I → Prop} (ok : hOK S 0 nc) (t : TR S I) (hQ : ∀ J, sc I J → P (hZl S 0 a b c) J) : mm_Ev mm_T0 X (d + 2) 185 0 (mm_ent 185 [.ref 91, .int 1, .int a, .int b, .int c]) [] I (mm_pi P) := by
  show mm_Ev mm_T0 X (d + 2) 185 0 [.ref 91, .int 1, .int a, .int b, .int c, .retAddr 0, .retAddr 0] [] I (mm_pi P)
  have tm := tM
  have tr := tR
  have tf := tMf
  have tp := tMp
  rcases t.2 with ⟨d0, d1, d2⟩ | ⟨d0, d1, d2⟩
  ·
    refine ev_bipush k185_0 ?_
    refine ev_bipush k185_2 ?_
    refine ev_ild1 k185_4 ?_
    refine ev_imul k185_5 ?_
    refine ev_iadd k185_6 ?_
    rw [show (119 : Int32) + 101 * 1 = nI 220 from by decide]
    refine ev_ist5 k185_7 rfl ?_
    refine ev_ald0 k185_9 ?_
    refine ev_getr k185_10 (by first | assumption | rfl) rfl rfl rfl ?_
    refine ev_iconst k185_13 ?_
    refine ev_ild2 k185_14 ?_
    refine ev_ias (j := 0) k185_15 (by first | assumption | rfl) rfl (vp_dec rfl) ?_
    refine ev_ald0 k185_16 ?_
    refine ev_getr k185_17 (by first | assumption | rfl) rfl rfl rfl ?_
    refine ev_iconst k185_20 ?_
    refine ev_ild3 k185_21 ?_
    refine ev_ias (j := 1) k185_22 (by first | assumption | rfl) rfl (vp_dec rfl) ?_
    refine ev_ald0 k185_23 ?_
    refine ev_getr k185_24 (by first | assumption | rfl) rfl rfl rfl ?_
    refine ev_iconst k185_27 ?_
    refine ev_ild4 k185_28 ?_
    refine ev_ias (j := 2) k185_30 (by first | assumption | rfl) rfl (vp_dec rfl) ?_
    generalize hJ : mm_up (mm_up (mm_up I 98 0 a) 98 1 b) 98 2 c = J
    have j0 : J 98 0 = a := by rw [← hJ]; simp [mm_up_at]
    have j1 : J 98 1 = b := by rw [← hJ]; simp [mm_up_at]
    have j2 : J 98 2 = c := by rw [← hJ]; simp [mm_up_at]
    have jn : ∀ k, k ≠ 98 → J k = I k := fun k hk => by rw [← hJ, mm_up_ne _ _ _ _ _ hk, mm_up_ne _ _ _ _ _ hk, mm_up_ne _ _ _ _ _ hk]
    clear hJ
    refine ev_ald0 k185_31 ?_
    refine ev_getr k185_32 (by first | assumption | rfl) rfl rfl rfl ?_
    refine ev_ild5 k185_35 ?_
    refine ev_ial (j := 220) k185_37 (by first | assumption | rfl) (by omega) (nI_clamp (by decide)) (vp_in_nI (show 220 < 321 by decide) (by decide)) ?_
    rw [jn 92 (by decide)]
    refine ev_jf_le k185_38 (fun h38 => ?_) (fun h38 => absurd h38 (by rw [d0]; decide))
    refine ev_ild1 k185_50 ?_
    refine ev_if_ne k185_51 (fun h51 => ?_) (fun h51 => absurd h51 (by decide))
    refine ev_bipush k185_58 ?_
    refine ev_ild2 k185_60 ?_
    refine ev_imul k185_61 ?_
    refine ev_ild3 k185_62 ?_
    refine ev_isub k185_63 ?_
    refine ev_ist6 k185_64 rfl ?_
    refine ev_ild1 k185_66 ?_
    refine ev_if_ne k185_67 (fun h67 => ?_) (fun h67 => absurd h67 (by decide))
    refine ev_ild6 k185_81 ?_
    refine ev_bipush k185_83 ?_
    refine ev_bipush k185_85 ?_
    refine ev_cS3i k185_87 cs_259 rfl rfl rfl ?_
    refine sp_held ?_
    refine ev_ri k185_90 rfl ?_
    have hv := hQ J (fun k h1 _ => jn k h1)
    rw [show hZl S 0 a b c = clp (-99) 99 (10 * a - b) from by unfold hZl; rw [d1, show S (0 + 15) = S 15 from rfl, tx_zeal d2.1 d2.2.1 d2.2.2.1 d2.2.2.2.1 d2.2.2.2.2]] at hv
    rw [held_clp (by decide)]
    exact hv
  ·
    refine ev_bipush k185_0 ?_
    refine ev_bipush k185_2 ?_
    refine ev_ild1 k185_4 ?_
    refine ev_imul k185_5 ?_
    refine ev_iadd k185_6 ?_
    rw [show (119 : Int32) + 101 * 1 = nI 220 from by decide]
    refine ev_ist5 k185_7 rfl ?_
    refine ev_ald0 k185_9 ?_
    refine ev_getr k185_10 (by first | assumption | rfl) rfl rfl rfl ?_
    refine ev_iconst k185_13 ?_
    refine ev_ild2 k185_14 ?_
    refine ev_ias (j := 0) k185_15 (by first | assumption | rfl) rfl (vp_dec rfl) ?_
    refine ev_ald0 k185_16 ?_
    refine ev_getr k185_17 (by first | assumption | rfl) rfl rfl rfl ?_
    refine ev_iconst k185_20 ?_
    refine ev_ild3 k185_21 ?_
    refine ev_ias (j := 1) k185_22 (by first | assumption | rfl) rfl (vp_dec rfl) ?_
    refine ev_ald0 k185_23 ?_
    refine ev_getr k185_24 (by first | assumption | rfl) rfl rfl rfl ?_
    refine ev_iconst k185_27 ?_
    refine ev_ild4 k185_28 ?_
    refine ev_ias (j := 2) k185_30 (by first | assumption | rfl) rfl (vp_dec rfl) ?_
    generalize hJ : mm_up (mm_up (mm_up I 98 0 a) 98 1 b) 98 2 c = J
    have j0 : J 98 0 = a := by rw [← hJ]; simp [mm_up_at]
    have j1 : J 98 1 = b := by rw [← hJ]; simp [mm_up_at]
    have j2 : J 98 2 = c := by rw [← hJ]; simp [mm_up_at]
    have jn : ∀ k, k ≠ 98 → J k = I k := fun k hk => by rw [← hJ, mm_up_ne _ _ _ _ _ hk, mm_up_ne _ _ _ _ _ hk, mm_up_ne _ _ _ _ _ hk]
    clear hJ
    refine ev_ald0 k185_31 ?_
    refine ev_getr k185_32 (by first | assumption | rfl) rfl rfl rfl ?_
    refine ev_ild5 k185_35 ?_
    refine ev_ial (j := 220) k185_37 (by first | assumption | rfl) (by omega) (nI_clamp (by decide)) (vp_in_nI (show 220 < 321 by decide) (by decide)) ?_
    rw [jn 92 (by decide)]
    refine ev_jf_le k185_38 (fun h38 => absurd (show 0 < I 92 220 by rw [d0]; exact nI_lt (a := 0) (by have := ok.2.2.2.2.2.1.1; omega) (by have := ok.2.2.2.2.2.1.2.1; omega)) h38) (fun h38 => ?_)
    refine ev_ald0 k185_41 ?_
    refine ev_ild5 k185_42 ?_
    refine ev_cV2i k185_44 cs_258 (by first | assumption | rfl) (by omega) (Nat.le_of_ble_eq_true rfl) rfl rfl rfl ?_
    refine sm_works (f := S 15) (l := hL1 S 0) (at0 := 220) (by decide) (by rw [jn 92 (by decide)]; exact d0) ok.2.2.2.2.2.1.2.1 (by rw [jn 92 (by decide)]; exact d1) d2 ?_
    rw [j0, j1, j2, tx_eq (show tWF (S 15) (hL1 S 0) from ok.2.2.2.2.2.1)]
    generalize (tv (S 15) a b c (hL1 S 0) 0 (0, J 99)).2 = g
    refine ev_goto k185_47 ?_
    refine ev_ist6 k185_64 rfl ?_
    refine ev_ild1 k185_66 ?_
    refine ev_if_ne k185_67 (fun h67 => ?_) (fun h67 => absurd h67 (by decide))
    refine ev_ild6 k185_81 ?_
    refine ev_bipush k185_83 ?_
    refine ev_bipush k185_85 ?_
    refine ev_cS3i k185_87 cs_259 rfl rfl rfl ?_
    refine sp_held ?_
    refine ev_ri k185_90 rfl ?_
    rw [held_clp (by decide)]
    refine hQ _ (fun k h1 h2 => ?_)
    rw [mm_rp_ne _ _ _ h2]
    exact jn k h1
