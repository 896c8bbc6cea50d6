/-! The class's reader -/
theorem dg_b {x : Int32} (h : dg x = true) : ∃ b : Nat, 48 ≤ b ∧ b ≤ 57 ∧ x = nI b := by
  simp only [dg, wB, Bool.and_eq_true, decide_eq_true_eq] at h
  have h1 : ¬ x < 0 := Int32.not_lt.mpr (Int32.le_trans (show (0 : Int32) ≤ 48 by decide) h.1)
  obtain ⟨j, hj, rfl⟩ := nI_of h1
  have h2 := Int32.le_iff_toInt_le.mp h.1
  have h3 := Int32.le_iff_toInt_le.mp h.2
  rw [nI_toInt hj, show (48 : Int32).toInt = 48 from by decide] at h2
  rw [nI_toInt hj, show (57 : Int32).toInt = 57 from by decide] at h3
  exact ⟨j, by omega, by omega, rfl⟩
theorem num_s {v b : Nat} (hv : v < 1000) (h1 : 48 ≤ b) (h2 : b ≤ 57) : nI v * 10 + nI b - 48 = nI (10 * v + (nI b).toNatClampNeg - 48) ∧ 10 * nI v + nI b - 48 = nI (10 * v + (nI b).toNatClampNeg - 48) := by
  rw [nI_clamp (by omega), show (10 : Int32) = nI 10 from rfl, show (48 : Int32) = nI 48 from rfl, pk_mul, pk_mul, nI_add, nI_add, pk_sub (by omega), pk_sub (by omega), Nat.mul_comm v 10]
  exact ⟨rfl, rfl⟩
theorem p10 {v i : Nat} (h : v < 10 ^ i) (hi : i < 4) : v < 1000 := by
  rcases (show i = 0 ∨ i = 1 ∨ i = 2 ∨ i = 3 by omega) with rfl | rfl | rfl | rfl <;> omega
theorem p10s {v i b : Nat} (h : v < 10 ^ i) (hi : i < 4) (hb : b ≤ 57) : 10 * v + b - 48 < 10 ^ (i + 1) := by
  rcases (show i = 0 ∨ i = 1 ∨ i = 2 ∨ i = 3 by omega) with rfl | rfl | rfl | rfl <;> omega
theorem pNum_v {g : Nat → Int32} : ∀ (n i p v : Nat), i + n = 4 → v < 10 ^ i → (pNum g n p v).2 < 10000 := by
  intro n
  induction n with
  | zero => intro i p v hi hv; have : i = 4 := by omega
            subst this; exact hv
  | succ n ih =>
    intro i p v hi hv
    unfold pNum
    by_cases z : dg (g p) = true
    · rw [if_pos z]
      obtain ⟨b, h1, h2, e⟩ := dg_b z
      refine ih (i + 1) (p + 1) _ (by omega) ?_
      rw [e, nI_clamp (by omega)]
      exact p10s hv (by omega) h2
    · rw [if_neg z]
      have := p10 hv (by omega)
      dsimp only
      omega
theorem dg_lt {g : Nat → Int32} {L p : Nat} (h : gOK g L) (z : dg (g p) = true) : p < L := g_lt h (fun w => by rw [w] at z; exact absurd z (by decide))
theorem lp_num {X : Nat × (Nat → Int32)} {d : Nat} {I : mm_I} {g : Nat → Int32} {u L p0 : Nat} {l : List Int32} {P : mm_I → Prop} (hb : rdB I g u L) (hl : l.length < 50) (hQ : ∀ K, rdE I K (pNum g 4 p0 0).1 (nI (pNum g 4 p0 0).2 :: l) → P K) : ∀ (n i p v : Nat) (K : mm_I), i + n = 4 → v < 10 ^ i → p ≤ L → rdE I K p l → pNum g n p v = pNum g 4 p0 0 → mm_Ev mm_T0 X (d + 3) 46 4 [.ref 74, .int (nI v), .int (nI i)] [] K (mm_pv P) := by
  intro n
  induction n with
  | zero =>
    intro i p v K hi hv hp h he
    have e : i = 4 := by omega
    subst e
    refine ev_ild2 k46_4 ?_
    refine ev_iconst k46_5 ?_
    refine ev_jcmp_ge k46_6 (fun h6 => ?_) (fun h6 => absurd h6 (by decide))
    refine ev_ald0 k46_48 ?_
    refine ev_getr k46_49 (by first | assumption | rfl) rfl rfl rfl ?_
    refine ev_ild1 k46_52 ?_
    refine ev_cV2v k46_53 cs_133 (by first | assumption | rfl) (by omega) (Nat.le_of_ble_eq_true rfl) rfl rfl rfl ?_
    refine rdE_add h hl (fun K2 h2 => ?_)
    refine ev_rv k46_56 rfl ?_
    have z := hQ K2
    rw [← he] at z
    exact z h2
  | succ n ih =>
    intro i p v K hi hv hp h he
    refine ev_ild2 k46_4 ?_
    refine ev_iconst k46_5 ?_
    refine ev_jcmp_ge k46_6 (fun h6 => absurd (nI_lt (show i < 4 by omega) (by omega)) h6) (fun h6 => ?_)
    refine ev_ald0 k46_9 ?_
    refine ev_cV1i k46_10 cs_131 (by first | assumption | rfl) (by omega) (Nat.le_of_ble_eq_true rfl) rfl rfl rfl ?_
    refine sp_nextByte hb h hp ?_
    refine ev_cS1i k46_13 cs_135 rfl rfl rfl ?_
    refine sp_isDigit ?_
    refine ev_ifz_eq k46_16 (fun h16 => ?_) (fun h16 => ?_)
    ·
      refine ev_ald0 k46_48 ?_
      refine ev_getr k46_49 (by first | assumption | rfl) rfl rfl rfl ?_
      refine ev_ild1 k46_52 ?_
      refine ev_cV2v k46_53 cs_133 (by first | assumption | rfl) (by omega) (Nat.le_of_ble_eq_true rfl) rfl rfl rfl ?_
      refine rdE_add h hl (fun K2 h2 => ?_)
      refine ev_rv k46_56 rfl ?_
      have e : pNum g (n + 1) p v = (p, v) := if_neg (by rw [h16]; decide)
      rw [e] at he
      have z := hQ K2
      rw [← he] at z
      exact z h2
    ·
      refine ev_ild1 k46_19 ?_
      refine ev_bipush k46_20 ?_
      refine ev_imul k46_22 ?_
      refine ev_ald0 k46_23 ?_
      refine ev_cV1i k46_24 cs_131 (by first | assumption | rfl) (by omega) (Nat.le_of_ble_eq_true rfl) rfl rfl rfl ?_
      refine sp_nextByte hb h hp ?_
      refine ev_iadd k46_27 ?_
      refine ev_bipush k46_28 ?_
      refine ev_isub k46_30 ?_
      obtain ⟨b, hb1, hb2, eb⟩ := dg_b h16
      have hpl := dg_lt hb.1 h16
      have en := (num_s (p10 hv (by omega)) hb1 hb2).1
      rw [← eb] at en
      rw [en]
      refine ev_ist1 k46_31 rfl ?_
      refine ev_ald0 k46_32 ?_
      refine ev_dup k46_33 rfl ?_
      refine ev_gfv (j := 3) k46_34 (by first | assumption | rfl) rfl rfl rfl rfl h.2.2.1 ?_
      refine ev_iconst k46_37 ?_
      refine ev_iadd k46_38 ?_
      refine ev_pf (j := 3) k46_39 (by first | assumption | rfl) rfl rfl rfl ?_
      refine ev_inc2 k46_42 rfl ?_
      refine ev_goto k46_45 ?_
      have e : pNum g (n + 1) p v = pNum g n (p + 1) (10 * v + (g p).toNatClampNeg - 48) := if_pos h16
      rw [nI_1, nI_1]
      refine ih (i + 1) (p + 1) _ _ (by omega) ?_ (by omega) (rdE_pl h) (e.symm.trans he)
      rw [eb, nI_clamp (by omega)]
      exact p10s hv (by omega) hb2
/-- Reader.readNumber -/
theorem sp_readNumber {X : Nat × (Nat → Int32)} {d : Nat} {I : mm_I} {J : mm_I} {g : Nat → Int32} {u L p : Nat} {l : List Int32} {P : mm_I → Prop} (hb : rdB J g u L) (hl : l.length < 50) (hp : p ≤ L) (h : rdE J I p l) (hQ : ∀ K, rdE J K (pNum g 4 p 0).1 (nI (pNum g 4 p 0).2 :: l) → P K) : mm_Ev mm_T0 X (d + 3) 46 0 (mm_ent 46 [.ref 74]) [] I (mm_pv P) := by
  show mm_Ev mm_T0 X (d + 3) 46 0 [.ref 74, .retAddr 0, .retAddr 0] [] I (mm_pv P)
  refine ev_iconst k46_0 ?_
  refine ev_ist1 k46_1 rfl ?_
  refine ev_iconst k46_2 ?_
  refine ev_ist2 k46_3 rfl ?_
  exact lp_num hb hl hQ 4 0 p 0 I (by omega) (by decide) hp h rfl
/-- Reader.readClosing -/
theorem sp_rc {X : Nat × (Nat → Int32)} {d : Nat} {I : mm_I} {J : mm_I} {g : Nat → Int32} {u L p : Nat} {l : List Int32} {P : mm_I → Prop} (hb : rdB J g u L) (hl : l.length ≤ 50) (hp : p ≤ L) (h : rdE J I p l) (hQ1 : g p = 41 → ∀ K, rdE J K (p + 1) l → P K) (hQ2 : ¬ g p = 41 → ∀ K, rdF J K p → P K) : mm_Ev mm_T0 X (d + 3) 47 0 (mm_ent 47 [.ref 74]) [] I (mm_pv P) := by
  show mm_Ev mm_T0 X (d + 3) 47 0 [.ref 74] [] I (mm_pv P)
  refine ev_ald0 k47_0 ?_
  refine ev_gfv (j := 4) k47_1 (by first | assumption | rfl) rfl rfl rfl rfl h.2.2.2.1 ?_
  refine ev_iconst k47_4 ?_
  refine ev_icmp_eq k47_5 (fun h5 => ?_) (fun h5 => absurd rfl h5)
  refine ev_ald0 k47_9 ?_
  refine ev_cV1i k47_10 cs_131 (by first | assumption | rfl) (by omega) (Nat.le_of_ble_eq_true rfl) rfl rfl rfl ?_
  refine sp_nextByte hb h hp ?_
  refine ev_bipush k47_13 ?_
  refine ev_icmp_ne k47_15 (fun h15 => ?_) (fun h15 => ?_)
  ·
    refine ev_ald0 k47_31 ?_
    refine ev_ald0 k47_32 ?_
    refine ev_gfv (j := 3) k47_33 (by first | assumption | rfl) rfl rfl rfl rfl h.2.2.1 ?_
    refine ev_pf (j := 4) k47_36 (by first | assumption | rfl) rfl rfl rfl ?_
    refine ev_rv k47_39 rfl ?_
    exact hQ2 h15 _ (rdE_ft hl h)
  ·
    refine ev_ald0 k47_18 ?_
    refine ev_dup k47_19 rfl ?_
    refine ev_gfv (j := 3) k47_20 (by first | assumption | rfl) rfl rfl rfl rfl h.2.2.1 ?_
    refine ev_iconst k47_23 ?_
    refine ev_iadd k47_24 ?_
    rw [nI_1]
    refine ev_pf (j := 3) k47_25 (by first | assumption | rfl) rfl rfl rfl ?_
    refine ev_goto k47_28 ?_
    refine ev_rv k47_39 rfl ?_
    exact hQ1 h15 _ (rdE_pl h)
/-- Reader.readClosing -/
theorem sp_rcF {X : Nat × (Nat → Int32)} {d : Nat} {I : mm_I} {J : mm_I} {p : Nat} {P : mm_I → Prop} (hp : p ≤ 50) (h : rdF J I p) (hQ : P I) : mm_Ev mm_T0 X (d) 47 0 (mm_ent 47 [.ref 74]) [] I (mm_pv P) := by
  show mm_Ev mm_T0 X (d) 47 0 [.ref 74] [] I (mm_pv P)
  refine ev_ald0 k47_0 ?_
  refine ev_gfv (j := 4) k47_1 (by first | assumption | rfl) rfl rfl rfl rfl h.2.2.1 ?_
  refine ev_iconst k47_4 ?_
  refine ev_icmp_eq k47_5 (fun h5 => absurd h5 (m1_ne (by omega))) (fun h5 => ?_)
  refine ev_rv k47_8 rfl ?_
  exact hQ
def opC (X : Nat × (Nat → Int32)) (I : mm_I) (g : Nat → Int32) (u L k : Nat) : Prop := ∀ (D p : Nat) (l : List Int32) (K : mm_I) (P : mm_I → Prop), 12 + 7 * k ≤ D → p ≤ L → l.length ≤ p → rdE I K p l → ((pOp g u k p).2.2 = true → ∀ K', rdE I K' (pOp g u k p).1 ((pOp g u k p).2.1 ++ l) → P K') → ((pOp g u k p).2.2 = false → ∀ K', rdF I K' (pOp g u k p).1 → P K') → mm_Ev mm_T0 X D 45 0 (mm_ent 45 [.ref 74, .int (nI (5 - k))]) [] K (mm_pv P)
def lvC (X : Nat × (Nat → Int32)) (I : mm_I) (g : Nat → Int32) (u L k j : Nat) : Prop := ∀ (D p : Nat) (l : List Int32) (K : mm_I) (P : mm_I → Prop), 13 + 7 * k + j ≤ D → p ≤ L → l.length ≤ p → rdE I K p l → ((pLv (pOp g u k) g j p).2.2 = true → ∀ K', rdE I K' (pLv (pOp g u k) g j p).1 ((pLv (pOp g u k) g j p).2.1 ++ l) → P K') → ((pLv (pOp g u k) g j p).2.2 = false → ∀ K', rdF I K' (pLv (pOp g u k) g j p).1 → P K') → mm_Ev mm_T0 X D 43 0 (mm_ent 43 [.ref 74, .int (nI (5 - j)), .int (nI (5 - k))]) [] K (mm_pv P)
theorem lv_0 {X : Nat × (Nat → Int32)} {I : mm_I} {g : Nat → Int32} {u L k : Nat} (hop : opC X I g u L k) : lvC X I g u L k 0 := by
  intro D p l K P hD hp hl h hQ1 hQ2
  obtain ⟨D', rfl⟩ : ∃ D', D = D' + 13 := ⟨D - 13, by omega⟩
  show mm_Ev mm_T0 X (D' + 13) 43 0 [.ref 74, .int 5, .int (nI (5 - k)), .retAddr 0, .retAddr 0, .retAddr 0] [] K (mm_pv P)
  refine ev_ild1 k43_0 ?_
  refine ev_iconst k43_1 ?_
  refine ev_icmp_lt k43_2 (fun h2 => absurd h2 (by decide)) (fun h2 => ?_)
  refine ev_ald0 k43_5 ?_
  refine ev_ild2 k43_6 ?_
  refine ev_cV2v k43_7 cs_130 (by first | assumption | rfl) (by omega) (Nat.le_of_ble_eq_true rfl) rfl rfl rfl ?_
  refine hop _ p l K _ (by omega) hp hl h (fun hk K1 h1 => ?_) (fun hk K1 h1 => ?_)
  · refine ev_rv k43_10 rfl ?_
    exact hQ1 hk K1 h1
  · refine ev_rv k43_10 rfl ?_
    exact hQ2 hk K1 h1
theorem lp_lv {X : Nat × (Nat → Int32)} {I : mm_I} {g : Nat → Int32} {u L k : Nat} {j M D : Nat} (hb : rdB I g u L) (hj : j ≤ 4) (hin : lvC X I g u L k j) (hD : 13 + 7 * k + j ≤ D + 13) (hM : M ≤ 50) {P : mm_I → Prop} : ∀ (n i p : Nat) (l : List Int32) (K : mm_I) (v5 : Value), i + n = M → p ≤ L → l.length ≤ p → rdE I K p l → ((pLp (pLv (pOp g u k) g j) g (nI (4 - j)) n p l).2.2 = true → ∀ K', rdE I K' (pLp (pLv (pOp g u k) g j) g (nI (4 - j)) n p l).1 (pLp (pLv (pOp g u k) g j) g (nI (4 - j)) n p l).2.1 → P K') → ((pLp (pLv (pOp g u k) g j) g (nI (4 - j)) n p l).2.2 = false → ∀ K', rdF I K' (pLp (pLv (pOp g u k) g j) g (nI (4 - j)) n p l).1 → P K') → mm_Ev mm_T0 X (D + 14) 43 34 [.ref 74, .int (nI (4 - j)), .int (nI (5 - k)), .int (nI M), .int (nI i), v5] [] K (mm_pv P) := by
  have hL := hb.1.1
  intro n
  induction n with
  | zero =>
    intro i p l K v5 hi hp hl h hQ1 hQ2
    have e : i = M := by omega
    subst e
    refine ev_ild4 k43_34 ?_
    refine ev_ild3 k43_36 ?_
    refine ev_jcmp_ge k43_37 (fun h37 => ?_) (fun h37 => absurd h37 (nI_nlt (Nat.le_refl _) (by omega)))
    refine ev_rv k43_99 rfl ?_
    exact hQ1 rfl K h
  | succ n ih =>
    intro i p l K v5 hi hp hl h hQ1 hQ2
    have hlt : i < M := by omega
    refine ev_ild4 k43_34 ?_
    refine ev_ild3 k43_36 ?_
    refine ev_jcmp_ge k43_37 (fun h37 => absurd (nI_lt hlt (by omega)) h37) (fun h37 => ?_)
    refine ev_ald0 k43_40 ?_
    refine ev_gfv (j := 4) k43_41 (by first | assumption | rfl) rfl rfl rfl rfl h.2.2.2.1 ?_
    refine ev_iconst k43_44 ?_
    refine ev_icmp_ne k43_45 (fun h45 => absurd rfl h45) (fun h45 => ?_)
    refine ev_ald0 k43_48 ?_
    refine ev_cV1i k43_49 cs_131 (by first | assumption | rfl) (by omega) (Nat.le_of_ble_eq_true rfl) rfl rfl rfl ?_
    refine sp_nextByte hb h hp ?_
    refine ev_cS1i k43_52 cs_132 rfl rfl rfl ?_
    refine sp_levelOf ?_
    refine ev_ild1 k43_55 ?_
    refine ev_icmp_ne k43_56 (fun h56 => ?_) (fun h56 => ?_)
    ·
      refine ev_rv k43_99 rfl ?_
      have e : pLp (pLv (pOp g u k) g j) g (nI (4 - j)) (n + 1) p l = (p, l, true) := if_neg h56
      rw [e] at hQ1
      exact hQ1 rfl K h
    ·
      refine ev_ald0 k43_59 ?_
      refine ev_cV1i k43_60 cs_131 (by first | assumption | rfl) (by omega) (Nat.le_of_ble_eq_true rfl) rfl rfl rfl ?_
      refine sp_nextByte hb h hp ?_
      refine ev_ist5 k43_63 rfl ?_
      refine ev_ald0 k43_65 ?_
      refine ev_dup k43_66 rfl ?_
      refine ev_gfv (j := 3) k43_67 (by first | assumption | rfl) rfl rfl rfl rfl h.2.2.1 ?_
      refine ev_iconst k43_70 ?_
      refine ev_iadd k43_71 ?_
      rw [nI_1]
      refine ev_pf (j := 3) k43_72 (by first | assumption | rfl) rfl rfl rfl ?_
      refine ev_ald0 k43_75 ?_
      refine ev_ild1 k43_76 ?_
      refine ev_iconst k43_77 ?_
      refine ev_iadd k43_78 ?_
      refine ev_ild2 k43_79 ?_
      rw [show nI (4 - j) + 1 = nI (5 - j) from by rw [nI_1]; exact congrArg nI (by omega)]
      have hpl : p < L := g_lt hb.1 (fun w => lvO_m1 hj (by rw [← w]; exact h56))
      have hok := pLv_ok hb.1 (pOp_ok (u := u) hb.1 k) j (by omega) (p + 1) (by omega)
      have e : pLp (pLv (pOp g u k) g j) g (nI (4 - j)) (n + 1) p l = if (pLv (pOp g u k) g j (p + 1)).2.2 = true then pLp (pLv (pOp g u k) g j) g (nI (4 - j)) n (pLv (pOp g u k) g j (p + 1)).1 (-(g p) :: ((pLv (pOp g u k) g j (p + 1)).2.1 ++ l)) else ((pLv (pOp g u k) g j (p + 1)).1, [], false) := if_pos h56
      rw [e] at hQ1 hQ2
      refine ev_cV3v k43_80 cs_127 rfl (by omega) (Nat.le_of_ble_eq_true rfl) rfl rfl rfl ?_
      refine hin _ (p + 1) l _ _ (by omega) (by omega) (by omega) (rdE_pl h) (fun hk K1 h1 => ?_) (fun hk K1 h1 => ?_)
      ·
        refine ev_ald0 k43_83 ?_
        refine ev_getr k43_84 (by first | assumption | rfl) rfl rfl rfl ?_
        refine ev_ild5 k43_87 ?_
        refine ev_ineg k43_89 ?_
        refine ev_cV2v k43_90 cs_133 (by first | assumption | rfl) (by omega) (Nat.le_of_ble_eq_true rfl) rfl rfl rfl ?_
        refine rdE_add h1 (by have := (hok.2.2 hk); have := hok.2.1; simp only [List.length_append]; omega) (fun K2 h2 => ?_)
        refine ev_inc4 k43_93 rfl ?_
        refine ev_goto k43_96 ?_
        rw [if_pos hk] at hQ1 hQ2
        rw [nI_1]
        have hk2 := hok.2.2 hk
        exact ih (i + 1) _ _ K2 _ (by omega) hok.2.1 (by simp only [List.length_cons, List.length_append]; omega) h2 hQ1 hQ2
      ·
        refine ev_ald0 k43_83 ?_
        refine ev_getr k43_84 (by first | assumption | rfl) rfl rfl rfl ?_
        refine ev_ild5 k43_87 ?_
        refine ev_ineg k43_89 ?_
        refine ev_cV2v k43_90 cs_133 (by first | assumption | rfl) (by omega) (Nat.le_of_ble_eq_true rfl) rfl rfl rfl ?_
        refine rdF_add h1 (fun K2 h2 => ?_)
        refine ev_inc4 k43_93 rfl ?_
        refine ev_goto k43_96 ?_
        refine ev_ild4 k43_34 ?_
        refine ev_ild3 k43_36 ?_
        refine ev_jcmp_ge k43_37 (fun h37 => ?_) (fun h37 => ?_)
        ·
          refine ev_rv k43_99 rfl ?_
          rw [if_neg (by rw [hk]; decide)] at hQ2
          exact hQ2 rfl K2 h2
        ·
          refine ev_ald0 k43_40 ?_
          refine ev_gfv (j := 4) k43_41 (by first | assumption | rfl) rfl rfl rfl rfl h2.2.2.1 ?_
          refine ev_iconst k43_44 ?_
          refine ev_icmp_ne k43_45 (fun h45 => ?_) (fun h45 => absurd h45 (m1_ne (by have := hok.2.1; omega)))
          refine ev_rv k43_99 rfl ?_
          rw [if_neg (by rw [hk]; decide)] at hQ2
          exact hQ2 rfl K2 h2
theorem pLp_app {inner : Nat → pR} {g : Nat → Int32} {lv : Int32} : ∀ (n p : Nat) (a l : List Int32), (pLp inner g lv n p (a ++ l)).1 = (pLp inner g lv n p a).1 ∧ (pLp inner g lv n p (a ++ l)).2.2 = (pLp inner g lv n p a).2.2 ∧ ((pLp inner g lv n p a).2.2 = true → (pLp inner g lv n p (a ++ l)).2.1 = (pLp inner g lv n p a).2.1 ++ l) := by
  intro n
  induction n with
  | zero => intro p a l; exact ⟨rfl, rfl, fun _ => rfl⟩
  | succ n ih =>
    intro p a l
    unfold pLp
    by_cases z : lvO (g p) = lv
    · rw [if_pos z, if_pos z]
      by_cases w : (inner (p + 1)).2.2 = true
      · rw [if_pos w, if_pos w]
        have q := ih (inner (p + 1)).1 (-(g p) :: ((inner (p + 1)).2.1 ++ a)) l
        rw [show (-(g p) :: ((inner (p + 1)).2.1 ++ a)) ++ l = -(g p) :: ((inner (p + 1)).2.1 ++ (a ++ l)) from by rw [List.cons_append, List.append_assoc]] at q
        exact q
      · rw [if_neg w, if_neg w]; exact ⟨rfl, rfl, fun t => by cases t⟩
    · rw [if_neg z, if_neg z]; exact ⟨rfl, rfl, fun _ => rfl⟩
theorem lv_S {X : Nat × (Nat → Int32)} {I : mm_I} {g : Nat → Int32} {u L k : Nat} {j : Nat} (hb : rdB I g u L) (hj : j ≤ 4) (hin : lvC X I g u L k j) : lvC X I g u L k (j + 1) := by
  intro D p l K P hD hp hl h hQ1 hQ2
  have hL := hb.1.1
  obtain ⟨D', rfl⟩ : ∃ D', D = D' + 14 := ⟨D - 14, by omega⟩
  rw [show 5 - (j + 1) = 4 - j by omega]
  show mm_Ev mm_T0 X (D' + 14) 43 0 [.ref 74, .int (nI (4 - j)), .int (nI (5 - k)), .retAddr 0, .retAddr 0, .retAddr 0] [] K (mm_pv P)
  refine ev_ild1 k43_0 ?_
  refine ev_iconst k43_1 ?_
  refine ev_icmp_lt k43_2 (fun h2 => ?_) (fun h2 => absurd (nI_lt (show 4 - j < 5 by omega) (by omega)) h2)
  refine ev_ald0 k43_11 ?_
  refine ev_ild1 k43_12 ?_
  refine ev_iconst k43_13 ?_
  refine ev_iadd k43_14 ?_
  refine ev_ild2 k43_15 ?_
  rw [show nI (4 - j) + 1 = nI (5 - j) from by rw [nI_1]; exact congrArg nI (by omega)]
  refine ev_cV3v k43_16 cs_127 rfl (by omega) (Nat.le_of_ble_eq_true rfl) rfl rfl rfl ?_
  have hok := pLv_ok hb.1 (pOp_ok (u := u) hb.1 k) j (by omega) p hp
  refine hin _ p l K _ (by omega) hp hl h (fun hk K1 h1 => ?_) (fun hk K1 h1 => ?_)
  ·
    refine ev_ild1 k43_19 ?_
    refine ev_iconst k43_20 ?_
    refine ev_icmp_ne k43_21 (fun h21 => ?_) (fun h21 => ?_)
    ·
      refine ev_bipush k43_28 ?_
      refine ev_ist3 k43_30 rfl ?_
      refine ev_iconst k43_31 ?_
      refine ev_ist4 k43_32 rfl ?_
      have hj2 : ¬ j = 2 := fun w => h21 (by rw [w]; rfl)
      have ej : pLv (pOp g u k) g (j + 1) p = pLp (pLv (pOp g u k) g j) g (nI (4 - j)) 50 (pLv (pOp g u k) g j p).1 (pLv (pOp g u k) g j p).2.1 := by
        show (if (pLv (pOp g u k) g j p).2.2 = true then pLp (pLv (pOp g u k) g j) g (nI (4 - j)) (if j = 2 then 1 else 50) (pLv (pOp g u k) g j p).1 (pLv (pOp g u k) g j p).2.1 else ((pLv (pOp g u k) g j p).1, [], false)) = _
        rw [if_pos hk, if_neg hj2]
      obtain ⟨a1, a2, a3⟩ := pLp_app (inner := pLv (pOp g u k) g j) (g := g) (lv := nI (4 - j)) 50 (pLv (pOp g u k) g j p).1 (pLv (pOp g u k) g j p).2.1 l
      refine lp_lv (D := D') (M := 50) hb (by omega) hin (by omega) (by decide) 50 0 _ _ K1 _ (by omega) hok.2.1 (by have := hok.2.2 hk; have := hok.2.1; simp only [List.length_append]; omega) h1 (fun hk2 K2 h2 => ?_) (fun hk2 K2 h2 => ?_)
      · rw [a2] at hk2
        rw [a1, a3 hk2] at h2
        exact hQ1 (by rw [ej]; exact hk2) K2 (by rw [ej]; exact h2)
      · rw [a2] at hk2
        rw [a1] at h2
        exact hQ2 (by rw [ej]; exact hk2) K2 (by rw [ej]; exact h2)
    ·
      refine ev_iconst k43_24 ?_
      refine ev_goto k43_25 ?_
      refine ev_ist3 k43_30 rfl ?_
      refine ev_iconst k43_31 ?_
      refine ev_ist4 k43_32 rfl ?_
      have hj2 : j = 2 := by have := (nI_eq (show 4 - j < 2 ^ 31 by omega) (show 2 < 2 ^ 31 by decide)).mp h21; omega
      have ej : pLv (pOp g u k) g (j + 1) p = pLp (pLv (pOp g u k) g j) g (nI (4 - j)) 1 (pLv (pOp g u k) g j p).1 (pLv (pOp g u k) g j p).2.1 := by
        show (if (pLv (pOp g u k) g j p).2.2 = true then pLp (pLv (pOp g u k) g j) g (nI (4 - j)) (if j = 2 then 1 else 50) (pLv (pOp g u k) g j p).1 (pLv (pOp g u k) g j p).2.1 else ((pLv (pOp g u k) g j p).1, [], false)) = _
        rw [if_pos hk, if_pos hj2]
      obtain ⟨a1, a2, a3⟩ := pLp_app (inner := pLv (pOp g u k) g j) (g := g) (lv := nI (4 - j)) 1 (pLv (pOp g u k) g j p).1 (pLv (pOp g u k) g j p).2.1 l
      refine lp_lv (D := D') (M := 1) hb (by omega) hin (by omega) (by decide) 1 0 _ _ K1 _ (by omega) hok.2.1 (by have := hok.2.2 hk; have := hok.2.1; simp only [List.length_append]; omega) h1 (fun hk2 K2 h2 => ?_) (fun hk2 K2 h2 => ?_)
      · rw [a2] at hk2
        rw [a1, a3 hk2] at h2
        exact hQ1 (by rw [ej]; exact hk2) K2 (by rw [ej]; exact h2)
      · rw [a2] at hk2
        rw [a1] at h2
        exact hQ2 (by rw [ej]; exact hk2) K2 (by rw [ej]; exact h2)
  ·
    refine ev_ild1 k43_19 ?_
    refine ev_iconst k43_20 ?_
    refine ev_icmp_ne k43_21 (fun h21 => ?_) (fun h21 => ?_)
    ·
      refine ev_bipush k43_28 ?_
      refine ev_ist3 k43_30 rfl ?_
      refine ev_iconst k43_31 ?_
      refine ev_ist4 k43_32 rfl ?_
      refine ev_ild4 k43_34 ?_
      refine ev_ild3 k43_36 ?_
      refine ev_jcmp_ge k43_37 (fun h37 => absurd (by decide) h37) (fun h37 => ?_)
      refine ev_ald0 k43_40 ?_
      refine ev_gfv (j := 4) k43_41 (by first | assumption | rfl) rfl rfl rfl rfl h1.2.2.1 ?_
      refine ev_iconst k43_44 ?_
      refine ev_icmp_ne k43_45 (fun h45 => ?_) (fun h45 => absurd h45 (m1_ne (by have := hok.2.1; omega)))
      refine ev_rv k43_99 rfl ?_
      have ej : pLv (pOp g u k) g (j + 1) p = ((pLv (pOp g u k) g j p).1, [], false) := by show (if (pLv (pOp g u k) g j p).2.2 = true then _ else ((pLv (pOp g u k) g j p).1, [], false)) = _; exact if_neg (by rw [hk]; decide)
      exact hQ2 (by rw [ej]) K1 (by rw [ej]; exact h1)
    ·
      refine ev_iconst k43_24 ?_
      refine ev_goto k43_25 ?_
      refine ev_ist3 k43_30 rfl ?_
      refine ev_iconst k43_31 ?_
      refine ev_ist4 k43_32 rfl ?_
      refine ev_ild4 k43_34 ?_
      refine ev_ild3 k43_36 ?_
      refine ev_jcmp_ge k43_37 (fun h37 => absurd (by decide) h37) (fun h37 => ?_)
      refine ev_ald0 k43_40 ?_
      refine ev_gfv (j := 4) k43_41 (by first | assumption | rfl) rfl rfl rfl rfl h1.2.2.1 ?_
      refine ev_iconst k43_44 ?_
      refine ev_icmp_ne k43_45 (fun h45 => ?_) (fun h45 => absurd h45 (m1_ne (by have := hok.2.1; omega)))
      refine ev_rv k43_99 rfl ?_
      have ej : pLv (pOp g u k) g (j + 1) p = ((pLv (pOp g u k) g j p).1, [], false) := by show (if (pLv (pOp g u k) g j p).2.2 = true then _ else ((pLv (pOp g u k) g j p).1, [], false)) = _; exact if_neg (by rw [hk]; decide)
      exact hQ2 (by rw [ej]) K1 (by rw [ej]; exact h1)
theorem lv_all {X : Nat × (Nat → Int32)} {I : mm_I} {g : Nat → Int32} {u L k : Nat} (hb : rdB I g u L) (hop : opC X I g u L k) : ∀ j, j ≤ 5 → lvC X I g u L k j
  | 0, _ => lv_0 hop
  | j + 1, hj => lv_S hb (by omega) (lv_all hb hop j (by omega))
theorem pOp_d {g : Nat → Int32} {u k p : Nat} (hd : dg (g p) = true) : pOp g u k p = ((pNum g 4 p 0).1, [nI (pNum g 4 p 0).2], true) := by cases k <;> exact if_pos hd
theorem pOp_n {g : Nat → Int32} {u k p : Nat} (hd : dg (g p) = false) (hn : ¬ nm u (g p) < 0) : pOp g u k p = (p + 1, [-1 - nm u (g p)], true) := by cases k <;> exact (if_neg (by rw [hd]; decide)).trans (if_neg hn)
theorem pOp_0 {g : Nat → Int32} {u p : Nat} (hd : dg (g p) = false) (hn : nm u (g p) < 0) : pOp g u 0 p = (p, [], false) := (if_neg (by rw [hd]; decide)).trans (if_pos hn)
theorem pOp_s {g : Nat → Int32} {u k p : Nat} (hd : dg (g p) = false) (hn : nm u (g p) < 0) : pOp g u (k + 1) p = (if g p = 33 then nt (pOp g u k (p + 1)) else if g p = 40 then clo g (pLv (pOp g u k) g 5 (p + 1)) else (p, [], false)) := (if_neg (by rw [hd]; decide)).trans (if_pos hn)
theorem nm_m1 (u : Nat) : nm u (-1) < 0 := by unfold nm; split <;> decide
theorem op_all {X : Nat × (Nat → Int32)} {I : mm_I} {g : Nat → Int32} {u L : Nat} (hb : rdB I g u L) : ∀ k, k ≤ 5 → opC X I g u L k := by
  have hL := hb.1.1
  intro k
  induction k with
  | zero =>
    intro _ D p l K P hD hp hl h hQ1 hQ2
    obtain ⟨D', rfl⟩ : ∃ D', D = D' + 12 := ⟨D - 12, by omega⟩
    show mm_Ev mm_T0 X (D' + 12) 45 0 [.ref 74, .int 5, .retAddr 0, .retAddr 0] [] K (mm_pv P)
    refine ev_ald0 k45_0 ?_
    refine ev_cV1i k45_1 cs_131 (by first | assumption | rfl) (by omega) (Nat.le_of_ble_eq_true rfl) rfl rfl rfl ?_
    refine sp_nextByte hb h hp ?_
    refine ev_ist2 k45_4 rfl ?_
    refine ev_ild2 k45_5 ?_
    refine ev_iconst k45_6 ?_
    refine ev_icmp_ne k45_7 (fun h7 => ?_) (fun h7 => ?_)
    ·
      obtain ⟨b, hb256, eb⟩ := hb.1.2.1 p (g_lt hb.1 h7)
      refine lm_names hb.2.1 (h.2.1.trans hb.2.2.1) hb256 eb ?_
      refine ev_ist3 k45_23 rfl ?_
      refine ev_ild2 k45_24 ?_
      refine ev_cS1i k45_25 cs_135 rfl rfl rfl ?_
      refine sp_isDigit ?_
      refine ev_ifz_eq k45_28 (fun h28 => ?_) (fun h28 => ?_)
      ·
        refine ev_ild3 k45_38 ?_
        refine ev_if_lt k45_39 (fun h39 => ?_) (fun h39 => ?_)
        ·
          refine ev_ild2 k45_65 ?_
          refine ev_bipush k45_66 ?_
          refine ev_icmp_ne k45_68 (fun h68 => ?_) (fun h68 => ?_)
          ·
            refine ev_ild2 k45_105 ?_
            refine ev_bipush k45_106 ?_
            refine ev_icmp_ne k45_108 (fun h108 => ?_) (fun h108 => ?_)
            ·
              refine ev_ald0 k45_141 ?_
              refine ev_ald0 k45_142 ?_
              refine ev_gfv (j := 3) k45_143 (by first | assumption | rfl) rfl rfl rfl rfl h.2.2.1 ?_
              refine ev_pf (j := 4) k45_146 (by first | assumption | rfl) rfl rfl rfl ?_
              refine ev_rv k45_149 rfl ?_
              have hd := h28
              have hn := h39
              rw [pOp_0 hd hn] at hQ2
              exact hQ2 rfl _ (rdE_ft (by omega) h)
            ·
              refine ev_ild1 k45_111 ?_
              refine ev_iconst k45_112 ?_
              refine ev_jcmp_ge k45_113 (fun h113 => ?_) (fun h113 => absurd h113 (by decide))
              refine ev_ald0 k45_141 ?_
              refine ev_ald0 k45_142 ?_
              refine ev_gfv (j := 3) k45_143 (by first | assumption | rfl) rfl rfl rfl rfl h.2.2.1 ?_
              refine ev_pf (j := 4) k45_146 (by first | assumption | rfl) rfl rfl rfl ?_
              refine ev_rv k45_149 rfl ?_
              have hd := h28
              have hn := h39
              rw [pOp_0 hd hn] at hQ2
              exact hQ2 rfl _ (rdE_ft (by omega) h)
          ·
            refine ev_ild1 k45_71 ?_
            refine ev_iconst k45_72 ?_
            refine ev_jcmp_ge k45_73 (fun h73 => ?_) (fun h73 => absurd h73 (by decide))
            refine ev_ild2 k45_105 ?_
            refine ev_bipush k45_106 ?_
            refine ev_icmp_ne k45_108 (fun h108 => ?_) (fun h108 => ?_)
            ·
              refine ev_ald0 k45_141 ?_
              refine ev_ald0 k45_142 ?_
              refine ev_gfv (j := 3) k45_143 (by first | assumption | rfl) rfl rfl rfl rfl h.2.2.1 ?_
              refine ev_pf (j := 4) k45_146 (by first | assumption | rfl) rfl rfl rfl ?_
              refine ev_rv k45_149 rfl ?_
              have hd := h28
              have hn := h39
              rw [pOp_0 hd hn] at hQ2
              exact hQ2 rfl _ (rdE_ft (by omega) h)
            ·
              refine ev_ild1 k45_111 ?_
              refine ev_iconst k45_112 ?_
              refine ev_jcmp_ge k45_113 (fun h113 => ?_) (fun h113 => absurd h113 (by decide))
              refine ev_ald0 k45_141 ?_
              refine ev_ald0 k45_142 ?_
              refine ev_gfv (j := 3) k45_143 (by first | assumption | rfl) rfl rfl rfl rfl h.2.2.1 ?_
              refine ev_pf (j := 4) k45_146 (by first | assumption | rfl) rfl rfl rfl ?_
              refine ev_rv k45_149 rfl ?_
              have hd := h28
              have hn := h39
              rw [pOp_0 hd hn] at hQ2
              exact hQ2 rfl _ (rdE_ft (by omega) h)
        ·
          refine ev_ald0 k45_42 ?_
          refine ev_dup k45_43 rfl ?_
          refine ev_gfv (j := 3) k45_44 (by first | assumption | rfl) rfl rfl rfl rfl h.2.2.1 ?_
          refine ev_iconst k45_47 ?_
          refine ev_iadd k45_48 ?_
          rw [nI_1]
          refine ev_pf (j := 3) k45_49 (by first | assumption | rfl) rfl rfl rfl ?_
          refine ev_ald0 k45_52 ?_
          refine ev_getr k45_53 (by first | assumption | rfl) rfl rfl rfl ?_
          refine ev_iconst k45_56 ?_
          refine ev_ild3 k45_57 ?_
          refine ev_isub k45_58 ?_
          refine ev_cV2v k45_59 cs_133 (by first | assumption | rfl) (by omega) (Nat.le_of_ble_eq_true rfl) rfl rfl rfl ?_
          have hpl : p < L := g_lt hb.1 h7
          refine rdE_add (rdE_pl (q := p + 1) h) (by omega) (fun K2 h2 => ?_)
          refine ev_goto k45_62 ?_
          refine ev_rv k45_149 rfl ?_
          rw [pOp_n h28 h39] at hQ1
          exact hQ1 rfl K2 h2
      ·
        refine ev_ald0 k45_31 ?_
        refine ev_cV1v k45_32 cs_136 (by first | assumption | rfl) (by omega) (Nat.le_of_ble_eq_true rfl) rfl rfl rfl ?_
        refine sp_readNumber hb (by have := dg_lt hb.1 h28; omega) hp h (fun K2 h2 => ?_)
        refine ev_goto k45_35 ?_
        refine ev_rv k45_149 rfl ?_
        rw [pOp_d h28] at hQ1
        exact hQ1 rfl K2 h2
    ·
      refine ev_iconst k45_10 ?_
      refine ev_goto k45_11 ?_
      refine ev_ist3 k45_23 rfl ?_
      refine ev_ild2 k45_24 ?_
      refine ev_cS1i k45_25 cs_135 rfl rfl rfl ?_
      refine sp_isDigit ?_
      refine ev_ifz_eq k45_28 (fun h28 => ?_) (fun h28 => absurd h28 (by rw [h7]; decide))
      refine ev_ild3 k45_38 ?_
      refine ev_if_lt k45_39 (fun h39 => ?_) (fun h39 => absurd (by decide) h39)
      refine ev_ild2 k45_65 ?_
      refine ev_bipush k45_66 ?_
      refine ev_icmp_ne k45_68 (fun h68 => ?_) (fun h68 => absurd h68 (by rw [h7]; decide))
      refine ev_ild2 k45_105 ?_
      refine ev_bipush k45_106 ?_
      refine ev_icmp_ne k45_108 (fun h108 => ?_) (fun h108 => absurd h108 (by rw [h7]; decide))
      refine ev_ald0 k45_141 ?_
      refine ev_ald0 k45_142 ?_
      refine ev_gfv (j := 3) k45_143 (by first | assumption | rfl) rfl rfl rfl rfl h.2.2.1 ?_
      refine ev_pf (j := 4) k45_146 (by first | assumption | rfl) rfl rfl rfl ?_
      refine ev_rv k45_149 rfl ?_
      have hd : dg (g p) = false := by rw [h7]; decide
      have hn : nm u (g p) < 0 := by rw [h7]; exact nm_m1 u
      rw [pOp_0 hd hn] at hQ2
      exact hQ2 rfl _ (rdE_ft (by omega) h)
  | succ k ih0 =>
    intro hk5 D p l K P hD hp hl h hQ1 hQ2
    have ih := ih0 (by omega)
    obtain ⟨D', rfl⟩ : ∃ D', D = D' + 12 := ⟨D - 12, by omega⟩
    show mm_Ev mm_T0 X (D' + 12) 45 0 [.ref 74, .int (nI (5 - (k + 1))), .retAddr 0, .retAddr 0] [] K (mm_pv P)
    refine ev_ald0 k45_0 ?_
    refine ev_cV1i k45_1 cs_131 (by first | assumption | rfl) (by omega) (Nat.le_of_ble_eq_true rfl) rfl rfl rfl ?_
    refine sp_nextByte hb h hp ?_
    refine ev_ist2 k45_4 rfl ?_
    refine ev_ild2 k45_5 ?_
    refine ev_iconst k45_6 ?_
    refine ev_icmp_ne k45_7 (fun h7 => ?_) (fun h7 => ?_)
    ·
      obtain ⟨b, hb256, eb⟩ := hb.1.2.1 p (g_lt hb.1 h7)
      refine lm_names hb.2.1 (h.2.1.trans hb.2.2.1) hb256 eb ?_
      refine ev_ist3 k45_23 rfl ?_
      refine ev_ild2 k45_24 ?_
      refine ev_cS1i k45_25 cs_135 rfl rfl rfl ?_
      refine sp_isDigit ?_
      refine ev_ifz_eq k45_28 (fun h28 => ?_) (fun h28 => ?_)
      ·
        refine ev_ild3 k45_38 ?_
        refine ev_if_lt k45_39 (fun h39 => ?_) (fun h39 => ?_)
        ·
          refine ev_ild2 k45_65 ?_
          refine ev_bipush k45_66 ?_
          refine ev_icmp_ne k45_68 (fun h68 => ?_) (fun h68 => ?_)
          ·
            refine ev_ild2 k45_105 ?_
            refine ev_bipush k45_106 ?_
            refine ev_icmp_ne k45_108 (fun h108 => ?_) (fun h108 => ?_)
            ·
              refine ev_ald0 k45_141 ?_
              refine ev_ald0 k45_142 ?_
              refine ev_gfv (j := 3) k45_143 (by first | assumption | rfl) rfl rfl rfl rfl h.2.2.1 ?_
              refine ev_pf (j := 4) k45_146 (by first | assumption | rfl) rfl rfl rfl ?_
              refine ev_rv k45_149 rfl ?_
              have hd := h28
              have hn := h39
              rw [pOp_s hd hn, if_neg h68, if_neg h108] at hQ2
              exact hQ2 rfl _ (rdE_ft (by omega) h)
            ·
              refine ev_ild1 k45_111 ?_
              refine ev_iconst k45_112 ?_
              refine ev_jcmp_ge k45_113 (fun h113 => absurd (nI_lt (show 5 - (k + 1) < 5 by omega) (by omega)) h113) (fun h113 => ?_)
              refine ev_ald0 k45_116 ?_
              refine ev_dup k45_117 rfl ?_
              refine ev_gfv (j := 3) k45_118 (by first | assumption | rfl) rfl rfl rfl rfl h.2.2.1 ?_
              refine ev_iconst k45_121 ?_
              refine ev_iadd k45_122 ?_
              rw [nI_1]
              refine ev_pf (j := 3) k45_123 (by first | assumption | rfl) rfl rfl rfl ?_
              refine ev_ald0 k45_126 ?_
              refine ev_iconst k45_127 ?_
              refine ev_ild1 k45_128 ?_
              refine ev_iconst k45_129 ?_
              refine ev_iadd k45_130 ?_
              rw [show nI (5 - (k + 1)) + 1 = nI (5 - k) from by rw [nI_1]; exact congrArg nI (by omega)]
              have hpl : p < L := g_lt hb.1 h7
              refine ev_cV3v k45_131 cs_127 rfl (by omega) (Nat.le_of_ble_eq_true rfl) rfl rfl rfl ?_
              have hok := pLv_ok hb.1 (pOp_ok (u := u) hb.1 k) 5 (by omega) (p + 1) (by omega)
              refine lv_all hb ih 5 (by omega) _ (p + 1) l _ _ (by omega) (by omega) (by omega) (rdE_pl h) (fun hk K1 h1 => ?_) (fun hk K1 h1 => ?_)
              ·
                refine ev_ald0 k45_134 ?_
                refine ev_cV1v k45_135 cs_137 (by first | assumption | rfl) (by omega) (Nat.le_of_ble_eq_true rfl) rfl rfl rfl ?_
                refine sp_rc hb (by have := hok.2.2 hk; have := hok.2.1; simp only [List.length_append]; omega) hok.2.1 h1 (fun hc K2 h2 => ?_) (fun hc K2 h2 => ?_)
                · refine ev_goto k45_138 ?_
                  refine ev_rv k45_149 rfl ?_
                  have en : pOp g u (k + 1) p = ((pLv (pOp g u k) g 5 (p + 1)).1 + 1, (pLv (pOp g u k) g 5 (p + 1)).2.1, true) := by rw [pOp_s h28 h39, if_neg h68, if_pos h108]; exact (if_pos hk).trans (if_pos hc)
                  rw [en] at hQ1
                  exact hQ1 rfl K2 h2
                · refine ev_goto k45_138 ?_
                  refine ev_rv k45_149 rfl ?_
                  have en : pOp g u (k + 1) p = ((pLv (pOp g u k) g 5 (p + 1)).1, [], false) := by rw [pOp_s h28 h39, if_neg h68, if_pos h108]; exact (if_pos hk).trans (if_neg hc)
                  rw [en] at hQ2
                  exact hQ2 rfl K2 h2
              ·
                refine ev_ald0 k45_134 ?_
                refine ev_cV1v k45_135 cs_137 (by first | assumption | rfl) (by omega) (Nat.le_of_ble_eq_true rfl) rfl rfl rfl ?_
                refine sp_rcF (by have := hok.2.1; omega) h1 ?_
                refine ev_goto k45_138 ?_
                refine ev_rv k45_149 rfl ?_
                have en : pOp g u (k + 1) p = ((pLv (pOp g u k) g 5 (p + 1)).1, [], false) := by rw [pOp_s h28 h39, if_neg h68, if_pos h108]; exact if_neg (by rw [hk]; decide)
                rw [en] at hQ2
                exact hQ2 rfl K1 h1
          ·
            refine ev_ild1 k45_71 ?_
            refine ev_iconst k45_72 ?_
            refine ev_jcmp_ge k45_73 (fun h73 => absurd (nI_lt (show 5 - (k + 1) < 5 by omega) (by omega)) h73) (fun h73 => ?_)
            refine ev_ald0 k45_76 ?_
            refine ev_dup k45_77 rfl ?_
            refine ev_gfv (j := 3) k45_78 (by first | assumption | rfl) rfl rfl rfl rfl h.2.2.1 ?_
            refine ev_iconst k45_81 ?_
            refine ev_iadd k45_82 ?_
            rw [nI_1]
            refine ev_pf (j := 3) k45_83 (by first | assumption | rfl) rfl rfl rfl ?_
            refine ev_ald0 k45_86 ?_
            refine ev_ild1 k45_87 ?_
            refine ev_iconst k45_88 ?_
            refine ev_iadd k45_89 ?_
            rw [show nI (5 - (k + 1)) + 1 = nI (5 - k) from by rw [nI_1]; exact congrArg nI (by omega)]
            have hpl : p < L := g_lt hb.1 h7
            refine ev_cV2v k45_90 cs_130 rfl (by omega) (Nat.le_of_ble_eq_true rfl) rfl rfl rfl ?_
            have hok := pOp_ok (u := u) hb.1 k (p + 1) (by omega)
            refine ih _ (p + 1) l _ _ (by omega) (by omega) (by omega) (rdE_pl h) (fun hk K1 h1 => ?_) (fun hk K1 h1 => ?_)
            ·
              refine ev_ald0 k45_93 ?_
              refine ev_getr k45_94 (by first | assumption | rfl) rfl rfl rfl ?_
              refine ev_bipush k45_97 ?_
              refine ev_cV2v k45_99 cs_133 (by first | assumption | rfl) (by omega) (Nat.le_of_ble_eq_true rfl) rfl rfl rfl ?_
              refine rdE_add h1 (by have := hok.2.2 hk; have := hok.2.1; simp only [List.length_append]; omega) (fun K2 h2 => ?_)
              refine ev_goto k45_102 ?_
              refine ev_rv k45_149 rfl ?_
              have en : pOp g u (k + 1) p = ((pOp g u k (p + 1)).1, -33 :: (pOp g u k (p + 1)).2.1, true) := by rw [pOp_s h28 h39, if_pos h68]; exact if_pos hk
              rw [en] at hQ1
              exact hQ1 rfl K2 h2
            ·
              refine ev_ald0 k45_93 ?_
              refine ev_getr k45_94 (by first | assumption | rfl) rfl rfl rfl ?_
              refine ev_bipush k45_97 ?_
              refine ev_cV2v k45_99 cs_133 (by first | assumption | rfl) (by omega) (Nat.le_of_ble_eq_true rfl) rfl rfl rfl ?_
              refine rdF_add h1 (fun K2 h2 => ?_)
              refine ev_goto k45_102 ?_
              refine ev_rv k45_149 rfl ?_
              have en : pOp g u (k + 1) p = ((pOp g u k (p + 1)).1, [], false) := by rw [pOp_s h28 h39, if_pos h68]; exact if_neg (by rw [hk]; decide)
              rw [en] at hQ2
              exact hQ2 rfl K2 h2
        ·
          refine ev_ald0 k45_42 ?_
          refine ev_dup k45_43 rfl ?_
          refine ev_gfv (j := 3) k45_44 (by first | assumption | rfl) rfl rfl rfl rfl h.2.2.1 ?_
          refine ev_iconst k45_47 ?_
          refine ev_iadd k45_48 ?_
          rw [nI_1]
          refine ev_pf (j := 3) k45_49 (by first | assumption | rfl) rfl rfl rfl ?_
          refine ev_ald0 k45_52 ?_
          refine ev_getr k45_53 (by first | assumption | rfl) rfl rfl rfl ?_
          refine ev_iconst k45_56 ?_
          refine ev_ild3 k45_57 ?_
          refine ev_isub k45_58 ?_
          refine ev_cV2v k45_59 cs_133 (by first | assumption | rfl) (by omega) (Nat.le_of_ble_eq_true rfl) rfl rfl rfl ?_
          have hpl : p < L := g_lt hb.1 h7
          refine rdE_add (rdE_pl (q := p + 1) h) (by omega) (fun K2 h2 => ?_)
          refine ev_goto k45_62 ?_
          refine ev_rv k45_149 rfl ?_
          rw [pOp_n h28 h39] at hQ1
          exact hQ1 rfl K2 h2
      ·
        refine ev_ald0 k45_31 ?_
        refine ev_cV1v k45_32 cs_136 (by first | assumption | rfl) (by omega) (Nat.le_of_ble_eq_true rfl) rfl rfl rfl ?_
        refine sp_readNumber hb (by have := dg_lt hb.1 h28; omega) hp h (fun K2 h2 => ?_)
        refine ev_goto k45_35 ?_
        refine ev_rv k45_149 rfl ?_
        rw [pOp_d h28] at hQ1
        exact hQ1 rfl K2 h2
    ·
      refine ev_iconst k45_10 ?_
      refine ev_goto k45_11 ?_
      refine ev_ist3 k45_23 rfl ?_
      refine ev_ild2 k45_24 ?_
      refine ev_cS1i k45_25 cs_135 rfl rfl rfl ?_
      refine sp_isDigit ?_
      refine ev_ifz_eq k45_28 (fun h28 => ?_) (fun h28 => absurd h28 (by rw [h7]; decide))
      refine ev_ild3 k45_38 ?_
      refine ev_if_lt k45_39 (fun h39 => ?_) (fun h39 => absurd (by decide) h39)
      refine ev_ild2 k45_65 ?_
      refine ev_bipush k45_66 ?_
      refine ev_icmp_ne k45_68 (fun h68 => ?_) (fun h68 => absurd h68 (by rw [h7]; decide))
      refine ev_ild2 k45_105 ?_
      refine ev_bipush k45_106 ?_
      refine ev_icmp_ne k45_108 (fun h108 => ?_) (fun h108 => absurd h108 (by rw [h7]; decide))
      refine ev_ald0 k45_141 ?_
      refine ev_ald0 k45_142 ?_
      refine ev_gfv (j := 3) k45_143 (by first | assumption | rfl) rfl rfl rfl rfl h.2.2.1 ?_
      refine ev_pf (j := 4) k45_146 (by first | assumption | rfl) rfl rfl rfl ?_
      refine ev_rv k45_149 rfl ?_
      have hd : dg (g p) = false := by rw [h7]; decide
      have hn : nm u (g p) < 0 := by rw [h7]; exact nm_m1 u
      rw [pOp_s hd hn, if_neg h68, if_neg h108] at hQ2
      exact hQ2 rfl _ (rdE_ft (by omega) h)
