/-! Calls on members; what is told -/
theorem sw_le {n : Nat} {b : Int32} (hn : n < 1000) (h : ∀ x : Nat, x ≤ n → ¬ b = nI x) : wB 0 (nI n) b = false := by
  cases e : wB 0 (nI n) b with
  | false => rfl
  | true =>
    obtain ⟨x, hx, rfl⟩ := wB_le hn e
    exact absurd rfl (h x hx)
theorem sw_5 {b : Int32} (h0 : ¬ b = 0) (h1 : ¬ b = 1) (h2 : ¬ b = 2) (h3 : ¬ b = 3) (h4 : ¬ b = 4) (h5 : ¬ b = 5) : wB 0 5 b = false := sw_le (n := 5) (by decide) (fun x hx => by
  rcases (show x = 0 ∨ x = 1 ∨ x = 2 ∨ x = 3 ∨ x = 4 ∨ x = 5 by omega) with rfl | rfl | rfl | rfl | rfl | rfl
  · exact h0
  · exact h1
  · exact h2
  · exact h3
  · exact h4
  · exact h5)
theorem sw_2 {b : Int32} (h0 : ¬ b = 0) (h1 : ¬ b = 1) (h2 : ¬ b = 2) : wB 0 2 b = false := sw_le (n := 2) (by decide) (fun x hx => by
  rcases (show x = 0 ∨ x = 1 ∨ x = 2 by omega) with rfl | rfl | rfl
  · exact h0
  · exact h1
  · exact h2)
theorem idx31 (p w : Nat) : (31 : Int32) + 3 * nI p + nI w = nI (31 + 3 * p + w) := idx3 p w
theorem wB_15i {v : Int32} (h : wB 1 5 v = true) : ∃ k : Nat, 1 ≤ k ∧ k ≤ 5 ∧ v = nI k := by
  simp only [wB, Bool.and_eq_true, decide_eq_true_eq] at h
  have h0 := Int32.le_iff_toInt_le.mp h.1
  have h1 : ¬ v < 0 := fun z => by
    have := Int32.lt_iff_toInt_lt.mp z
    rw [show (1 : Int32) = nI 1 from rfl, nI_toInt (by omega)] at h0
    rw [show (0 : Int32) = nI 0 from rfl, nI_toInt (by omega)] at this
    omega
  obtain ⟨j, hj, rfl⟩ := nI_of h1
  have h2 := Int32.le_iff_toInt_le.mp h.2
  rw [show (1 : Int32) = nI 1 from rfl, nI_toInt (by omega), nI_toInt hj] at h0
  rw [show (5 : Int32) = nI 5 from rfl, nI_toInt hj, nI_toInt (by omega)] at h2
  exact ⟨j, by omega, by omega, rfl⟩
/-- CV.member -/
theorem op_member {X : Nat × (Nat → Int32)} {d : Nat} {I : mm_I} {P : Int32 → mm_I → Prop} {a : Int32} (inv : Inv I) (hQ : ∀ v J, mm_Ev mm_T0 X (d + 60) 166 0 (mm_ent 166 [.ref 91, .int a]) [] J (mm_pi fun w K => w = v ∧ Inv K) → P v J) : mm_Ev mm_T0 X (d + 60) 81 0 (mm_ent 81 [.ref 0, .int a]) [] I (mm_pi P) := by
  show mm_Ev mm_T0 X (d + 60) 81 0 [.ref 0, .int a] [] I (mm_pi P)
  obtain ⟨nc, np, hs⟩ := inv.1
  obtain ⟨c1, n6, p1, p6, rc, rp, rm, ok, sr, tt⟩ := hsF hs
  have t0 := tCV
  have tm := tM
  have tr := tR
  refine ev_ild1 k81_0 ?_
  refine ev_cS1i k81_1 cs_181 rfl rfl rfl ?_
  refine sp_isBill ?_
  refine ev_ifz_ne k81_4 (fun h4 => ?_) (fun h4 => ?_)
  ·
    obtain ⟨x, hx, rfl⟩ := wB_le (hi := 7) (by omega) h4
    refine ev_ald0 k81_14 ?_
    refine ev_getr k81_15 (by first | assumption | rfl) rfl rfl rfl ?_
    refine ev_gfv (j := 7) k81_18 (by first | assumption | rfl) rfl rfl rfl rfl p1 ?_
    refine ev_bipush k81_21 ?_
    refine ev_icmp_lt k81_23 (fun h23 => ?_) (fun h23 => ?_)
    ·
      have hn6 : np < 6 := (nI_ltI (show np < 2 ^ 31 by omega) (show 6 < 2 ^ 31 by omega)).mp h23
      refine ev_ald0 k81_33 ?_
      refine ev_getr k81_34 (by first | assumption | rfl) rfl rfl rfl ?_
      refine ev_ild1 k81_37 ?_
      refine ev_cV2i k81_38 cs_182 (by first | assumption | rfl) (by omega) (Nat.le_of_ble_eq_true rfl) rfl rfl rfl ?_
      refine sp_addMember (p := np) hh11 (by assumption) hn6 ?_
      refine ev_ri k81_41 rfl ?_
      refine hQ _ _ ?_
      show mm_Ev mm_T0 X (d + 60) 166 0 [.ref 91, .int _, .retAddr 0] [] _ (mm_pi _)
      refine ev_ild1 k166_0 ?_
      refine ev_cS1i k166_1 cs_243 rfl rfl rfl ?_
      refine sm_isBill ?_
      refine ev_ifz_ne k166_4 (fun g4 => ?_) (fun g4 => Bool.noConfusion (Eq.trans (Eq.symm h4) g4))
      refine ev_ald0 k166_14 ?_
      refine ev_getr k166_15 (by first | assumption | rfl) rfl rfl rfl ?_
      refine ev_iconst k166_18 ?_
      refine ev_ialv (j := 3) k166_19 (by first | assumption | rfl) (by omega) rfl (vp_dec rfl) rp ?_
      refine ev_ist2 k166_20 rfl ?_
      refine ev_ild2 k166_21 ?_
      refine ev_bipush k166_22 ?_
      refine ev_icmp_ne k166_24 (fun g24 => ?_) (fun g24 => absurd g24 (fun z => by rw [(nI_eq (show np < 2 ^ 31 by omega) (show 6 < 2 ^ 31 by omega)).mp z] at hn6; exact absurd hn6 (by decide)))
      refine ev_ald0 k166_34 ?_
      refine ev_getr k166_35 (by first | assumption | rfl) rfl rfl rfl ?_
      refine ev_iconst k166_38 ?_
      refine ev_dup2 k166_39 rfl rfl ?_
      refine ev_ialv (j := 3) k166_40 (by first | assumption | rfl) (by omega) rfl (vp_dec rfl) rp ?_
      refine ev_iconst k166_41 ?_
      refine ev_iadd k166_42 ?_
      refine ev_ias (j := 3) k166_43 (by first | assumption | rfl) rfl (vp_dec rfl) ?_
      refine ev_ald0 k166_44 ?_
      refine ev_ild2 k166_45 ?_
      refine ev_iconst k166_46 ?_
      refine ev_bipush k166_47 ?_
      refine ev_cV4v k166_49 cs_244 (by first | assumption | rfl) (by omega) (Nat.le_of_ble_eq_true rfl) rfl rfl rfl ?_
      refine sm_lets (w := 0) (show np < 6 by omega) (by decide) ?_
      refine ev_ald0 k166_52 ?_
      refine ev_ild2 k166_53 ?_
      refine ev_iconst k166_54 ?_
      refine ev_ild1 k166_55 ?_
      refine ev_cV4v k166_56 cs_244 (by first | assumption | rfl) (by omega) (Nat.le_of_ble_eq_true rfl) rfl rfl rfl ?_
      refine sm_lets (w := 1) (show np < 6 by omega) (by decide) ?_
      refine ev_ald0 k166_59 ?_
      refine ev_ild2 k166_60 ?_
      refine ev_iconst k166_61 ?_
      refine ev_iconst k166_62 ?_
      refine ev_cV4v k166_63 cs_244 (by first | assumption | rfl) (by omega) (Nat.le_of_ble_eq_true rfl) rfl rfl rfl ?_
      refine sm_lets (w := 2) (show np < 6 by omega) (by decide) ?_
      refine ev_ild2 k166_66 ?_
      refine ev_ri k166_67 rfl ?_
      refine ⟨rfl, Inv_H inv (fun k hk => ?_) (HS_addM (s := 10) (h := x) hs (by omega) (by omega) (by omega) ?_ (fun j hj => ?_) (fun q j hq1 hq hj => ?_) ?_ ?_ ?_ ?_ ?_ ?_ ?_ (fun j hj hj2 => ?_))⟩
      · repeat rw [mm_up_ne _ _ _ _ _ (by omega)]
      · simp [cells, mm_up_at]
      · simp only [cells, mm_up_at]; repeat rw [if_neg (by omega)]
      · simp only [cells, mm_up_at]; repeat rw [if_neg (by omega)]
      · simp [cells, mm_up_at]; rfl
      · simp [cells, mm_up_at]
      · simp [cells, mm_up_at]
      · simp only [mm_up_at]; repeat rw [if_neg (by omega)]
        rw [if_pos (by simp), nI_1]
      · simp only [mm_up_at]; repeat rw [if_neg (by omega)]
        rw [if_pos (by simp)]; rfl
      · simp only [mm_up_at]; repeat rw [if_neg (by omega)]
        rw [if_pos (by simp)]
      · simp only [mm_up_at]
        rw [if_pos (by simp)]
      · simp only [mm_up_at]; repeat rw [if_neg (by omega)]
    ·
      have hn6 : np = 6 := by have z : ¬ np < 6 := fun z => h23 ((nI_ltI (show np < 2 ^ 31 by omega) (show 6 < 2 ^ 31 by omega)).mpr z); omega
      refine ev_ald0 k81_26 ?_
      refine ev_ldc k81_27 ?_
      refine ev_cV2i k81_29 cs_174 (by first | assumption | rfl) (by omega) (Nat.le_of_ble_eq_true rfl) rfl rfl rfl ?_
      refine sp_error (k := 4) (by decide) (by decide) (by decide) ?_
      refine ev_ri k81_32 rfl ?_
      refine hQ _ _ ?_
      show mm_Ev mm_T0 X (d + 60) 166 0 [.ref 91, .int _, .retAddr 0] [] _ (mm_pi _)
      refine ev_ild1 k166_0 ?_
      refine ev_cS1i k166_1 cs_243 rfl rfl rfl ?_
      refine sm_isBill ?_
      refine ev_ifz_ne k166_4 (fun g4 => ?_) (fun g4 => Bool.noConfusion (Eq.trans (Eq.symm h4) g4))
      refine ev_ald0 k166_14 ?_
      refine ev_getr k166_15 (by first | assumption | rfl) rfl rfl rfl ?_
      refine ev_iconst k166_18 ?_
      refine ev_ialv (j := 3) k166_19 (by first | assumption | rfl) (by omega) rfl (vp_dec rfl) rp ?_
      refine ev_ist2 k166_20 rfl ?_
      refine ev_ild2 k166_21 ?_
      refine ev_bipush k166_22 ?_
      refine ev_icmp_ne k166_24 (fun g24 => absurd (by rw [hn6]; rfl) g24) (fun g24 => ?_)
      refine ev_ald0 k166_27 ?_
      refine ev_ldc k166_28 ?_
      refine ev_cV2i k166_30 cs_238 (by first | assumption | rfl) (by omega) (Nat.le_of_ble_eq_true rfl) rfl rfl rfl ?_
      refine sm_error (k := 4) (by decide) (by decide) ?_
      refine ev_ri k166_33 rfl ?_
      first | exact ⟨rfl, Inv_e rfl rfl inv⟩ | exact ⟨rfl, inv⟩
  ·
    refine ev_ald0 k81_7 ?_
    refine ev_ldc k81_8 ?_
    refine ev_cV2i k81_10 cs_174 (by first | assumption | rfl) (by omega) (Nat.le_of_ble_eq_true rfl) rfl rfl rfl ?_
    refine sp_error (k := 1) (by decide) (by decide) (by decide) ?_
    refine ev_ri k81_13 rfl ?_
    refine hQ _ _ ?_
    show mm_Ev mm_T0 X (d + 60) 166 0 [.ref 91, .int _, .retAddr 0] [] _ (mm_pi _)
    refine ev_ild1 k166_0 ?_
    refine ev_cS1i k166_1 cs_243 rfl rfl rfl ?_
    refine sm_isBill ?_
    refine ev_ifz_ne k166_4 (fun g4 => Bool.noConfusion (Eq.trans (Eq.symm h4) g4)) (fun g4 => ?_)
    refine ev_ald0 k166_7 ?_
    refine ev_ldc k166_8 ?_
    refine ev_cV2i k166_10 cs_238 (by first | assumption | rfl) (by omega) (Nat.le_of_ble_eq_true rfl) rfl rfl rfl ?_
    refine sm_error (k := 1) (by decide) (by decide) ?_
    refine ev_ri k166_13 rfl ?_
    first | exact ⟨rfl, Inv_e rfl rfl inv⟩ | exact ⟨rfl, inv⟩
/-- CV.ofMember -/
theorem op_ofMember {X : Nat × (Nat → Int32)} {d : Nat} {I : mm_I} {P : Int32 → mm_I → Prop} {a : Int32} {b : Int32} (inv : Inv I) (hQ : ∀ v J, mm_Ev mm_T0 X (d + 60) 167 0 (mm_ent 167 [.ref 91, .int a, .int b]) [] J (mm_pi fun w K => w = v ∧ Inv K) → P v J) : mm_Ev mm_T0 X (d + 60) 82 0 (mm_ent 82 [.ref 0, .int a, .int b]) [] I (mm_pi P) := by
  show mm_Ev mm_T0 X (d + 60) 82 0 [.ref 0, .int a, .int b] [] I (mm_pi P)
  obtain ⟨nc, np, hs⟩ := inv.1
  obtain ⟨c1, n6, p1, p6, rc, rp, rm, ok, sr, tt⟩ := hsF hs
  have t0 := tCV
  have tm := tM
  have tr := tR
  refine ev_ald0 k82_0 ?_
  refine ev_ild1 k82_1 ?_
  refine ev_cV2i k82_2 cs_183 (by first | assumption | rfl) (by omega) (Nat.le_of_ble_eq_true rfl) rfl rfl rfl ?_
  refine sp_cMember p1 ?_
  refine ev_ifz_ne k82_5 (fun h5 => ?_) (fun h5 => ?_)
  ·
    obtain ⟨p, hp, rfl⟩ := wB_in (n := np) (by omega) h5
    refine ev_ild2 k82_15 ?_
    refine ev_tb (l := [(0, 28), (1, 38), (2, 48)]) k82_16 rfl rfl ?_
    refine sw_cons (key := 0) (t := 44) rfl rfl (fun h16 => ?_) (fun h16_0 => ?_)
    ·
      subst h16
      refine ev_ald0 k82_44 ?_
      refine ev_getr k82_45 (by first | assumption | rfl) rfl rfl rfl ?_
      refine ev_getr k82_48 (by first | assumption | rfl) rfl rfl rfl ?_
      refine ev_ild1 k82_51 ?_
      refine ev_ial (j := p) k82_52 (by first | assumption | rfl) (by omega) (nI_clamp (by omega)) (vp_in_nI (show p < 6 by omega) (by omega)) ?_
      refine ev_ri k82_53 rfl ?_
      refine hQ _ _ ?_
      show mm_Ev mm_T0 X (d + 60) 167 0 [.ref 91, .int _, .int _] [] _ (mm_pi _)
      refine ev_ald0 k167_0 ?_
      refine ev_ild1 k167_1 ?_
      refine ev_cV2i k167_2 cs_245 (by first | assumption | rfl) (by omega) (Nat.le_of_ble_eq_true rfl) rfl rfl rfl ?_
      refine sm_cMember (show _ = nI np from rp) ?_
      refine ev_ifz_eq k167_5 (fun g5 => Bool.noConfusion (Eq.trans (Eq.symm h5) g5)) (fun g5 => ?_)
      refine ev_ild2 k167_8 ?_
      refine ev_iconst k167_9 ?_
      refine ev_iconst k167_10 ?_
      refine ev_cS3i k167_11 cs_224 rfl rfl rfl ?_
      refine sp_in ?_
      refine ev_ifz_eq k167_14 (fun g14 => Bool.noConfusion (Eq.trans (Eq.symm (show wB 0 2 _ = true from by decide)) g14)) (fun g14 => ?_)
      refine ev_ald0 k167_17 ?_
      refine ev_ild1 k167_18 ?_
      refine ev_ild2 k167_19 ?_
      refine ev_cV3i k167_20 cs_225 (by first | assumption | rfl) (by omega) (Nat.le_of_ble_eq_true rfl) rfl rfl rfl ?_
      refine sm_aboutv (w := 0) (show p < 6 by omega) (by decide) (rm.2.2.1 p hp).1 ?_
      refine ev_goto k167_23 ?_
      refine ev_ri k167_32 rfl ?_
      first | exact ⟨rfl, Inv_e rfl rfl inv⟩ | exact ⟨rfl, inv⟩
    refine sw_cons (key := 1) (t := 54) rfl rfl (fun h16 => ?_) (fun h16_1 => ?_)
    ·
      subst h16
      refine ev_ald0 k82_54 ?_
      refine ev_getr k82_55 (by first | assumption | rfl) rfl rfl rfl ?_
      refine ev_getr k82_58 (by first | assumption | rfl) rfl rfl rfl ?_
      refine ev_ild1 k82_61 ?_
      refine ev_ial (j := p) k82_62 (by first | assumption | rfl) (by omega) (nI_clamp (by omega)) (vp_in_nI (show p < 6 by omega) (by omega)) ?_
      refine ev_ri k82_63 rfl ?_
      refine hQ _ _ ?_
      show mm_Ev mm_T0 X (d + 60) 167 0 [.ref 91, .int _, .int _] [] _ (mm_pi _)
      refine ev_ald0 k167_0 ?_
      refine ev_ild1 k167_1 ?_
      refine ev_cV2i k167_2 cs_245 (by first | assumption | rfl) (by omega) (Nat.le_of_ble_eq_true rfl) rfl rfl rfl ?_
      refine sm_cMember (show _ = nI np from rp) ?_
      refine ev_ifz_eq k167_5 (fun g5 => Bool.noConfusion (Eq.trans (Eq.symm h5) g5)) (fun g5 => ?_)
      refine ev_ild2 k167_8 ?_
      refine ev_iconst k167_9 ?_
      refine ev_iconst k167_10 ?_
      refine ev_cS3i k167_11 cs_224 rfl rfl rfl ?_
      refine sp_in ?_
      refine ev_ifz_eq k167_14 (fun g14 => Bool.noConfusion (Eq.trans (Eq.symm (show wB 0 2 _ = true from by decide)) g14)) (fun g14 => ?_)
      refine ev_ald0 k167_17 ?_
      refine ev_ild1 k167_18 ?_
      refine ev_ild2 k167_19 ?_
      refine ev_cV3i k167_20 cs_225 (by first | assumption | rfl) (by omega) (Nat.le_of_ble_eq_true rfl) rfl rfl rfl ?_
      refine sm_aboutv (w := 1) (show p < 6 by omega) (by decide) (rm.2.2.1 p hp).2.1 ?_
      refine ev_goto k167_23 ?_
      refine ev_ri k167_32 rfl ?_
      first | exact ⟨rfl, Inv_e rfl rfl inv⟩ | exact ⟨rfl, inv⟩
    refine sw_cons (key := 2) (t := 64) rfl rfl (fun h16 => ?_) (fun h16_2 => ?_)
    ·
      subst h16
      refine ev_ald0 k82_64 ?_
      refine ev_getr k82_65 (by first | assumption | rfl) rfl rfl rfl ?_
      refine ev_getr k82_68 (by first | assumption | rfl) rfl rfl rfl ?_
      refine ev_ild1 k82_71 ?_
      refine ev_ial (j := p) k82_72 (by first | assumption | rfl) (by omega) (nI_clamp (by omega)) (vp_in_nI (show p < 6 by omega) (by omega)) ?_
      refine ev_ri k82_73 rfl ?_
      refine hQ _ _ ?_
      show mm_Ev mm_T0 X (d + 60) 167 0 [.ref 91, .int _, .int _] [] _ (mm_pi _)
      refine ev_ald0 k167_0 ?_
      refine ev_ild1 k167_1 ?_
      refine ev_cV2i k167_2 cs_245 (by first | assumption | rfl) (by omega) (Nat.le_of_ble_eq_true rfl) rfl rfl rfl ?_
      refine sm_cMember (show _ = nI np from rp) ?_
      refine ev_ifz_eq k167_5 (fun g5 => Bool.noConfusion (Eq.trans (Eq.symm h5) g5)) (fun g5 => ?_)
      refine ev_ild2 k167_8 ?_
      refine ev_iconst k167_9 ?_
      refine ev_iconst k167_10 ?_
      refine ev_cS3i k167_11 cs_224 rfl rfl rfl ?_
      refine sp_in ?_
      refine ev_ifz_eq k167_14 (fun g14 => Bool.noConfusion (Eq.trans (Eq.symm (show wB 0 2 _ = true from by decide)) g14)) (fun g14 => ?_)
      refine ev_ald0 k167_17 ?_
      refine ev_ild1 k167_18 ?_
      refine ev_ild2 k167_19 ?_
      refine ev_cV3i k167_20 cs_225 (by first | assumption | rfl) (by omega) (Nat.le_of_ble_eq_true rfl) rfl rfl rfl ?_
      refine sm_aboutv (w := 2) (show p < 6 by omega) (by decide) (rm.2.2.1 p hp).2.2 ?_
      refine ev_goto k167_23 ?_
      refine ev_ri k167_32 rfl ?_
      first | exact ⟨rfl, Inv_e rfl rfl inv⟩ | exact ⟨rfl, inv⟩
    refine sw_nil (t := 74) rfl ?_
    refine ev_ald0 k82_74 ?_
    refine ev_ldc k82_75 ?_
    refine ev_cV2i k82_77 cs_174 (by first | assumption | rfl) (by omega) (Nat.le_of_ble_eq_true rfl) rfl rfl rfl ?_
    refine sp_error (k := 1) (by decide) (by decide) (by decide) ?_
    refine ev_ri k82_80 rfl ?_
    refine hQ _ _ ?_
    show mm_Ev mm_T0 X (d + 60) 167 0 [.ref 91, .int _, .int _] [] _ (mm_pi _)
    refine ev_ald0 k167_0 ?_
    refine ev_ild1 k167_1 ?_
    refine ev_cV2i k167_2 cs_245 (by first | assumption | rfl) (by omega) (Nat.le_of_ble_eq_true rfl) rfl rfl rfl ?_
    refine sm_cMember (show _ = nI np from rp) ?_
    refine ev_ifz_eq k167_5 (fun g5 => Bool.noConfusion (Eq.trans (Eq.symm h5) g5)) (fun g5 => ?_)
    refine ev_ild2 k167_8 ?_
    refine ev_iconst k167_9 ?_
    refine ev_iconst k167_10 ?_
    refine ev_cS3i k167_11 cs_224 rfl rfl rfl ?_
    refine sp_in ?_
    refine ev_ifz_eq k167_14 (fun g14 => ?_) (fun g14 => Bool.noConfusion (Eq.trans (Eq.symm (sw_2 h16_0 h16_1 h16_2)) g14))
    refine ev_ald0 k167_26 ?_
    refine ev_ldc k167_27 ?_
    refine ev_cV2i k167_29 cs_238 (by first | assumption | rfl) (by omega) (Nat.le_of_ble_eq_true rfl) rfl rfl rfl ?_
    refine sm_error (k := 1) (by decide) (by decide) ?_
    refine ev_ri k167_32 rfl ?_
    first | exact ⟨rfl, Inv_e rfl rfl inv⟩ | exact ⟨rfl, inv⟩
  ·
    refine ev_ald0 k82_8 ?_
    refine ev_ldc k82_9 ?_
    refine ev_cV2i k82_11 cs_174 (by first | assumption | rfl) (by omega) (Nat.le_of_ble_eq_true rfl) rfl rfl rfl ?_
    refine sp_error (k := 1) (by decide) (by decide) (by decide) ?_
    refine ev_ri k82_14 rfl ?_
    refine hQ _ _ ?_
    show mm_Ev mm_T0 X (d + 60) 167 0 [.ref 91, .int _, .int _] [] _ (mm_pi _)
    refine ev_ald0 k167_0 ?_
    refine ev_ild1 k167_1 ?_
    refine ev_cV2i k167_2 cs_245 (by first | assumption | rfl) (by omega) (Nat.le_of_ble_eq_true rfl) rfl rfl rfl ?_
    refine sm_cMember (show _ = nI np from rp) ?_
    refine ev_ifz_eq k167_5 (fun g5 => ?_) (fun g5 => Bool.noConfusion (Eq.trans (Eq.symm h5) g5))
    refine ev_ald0 k167_26 ?_
    refine ev_ldc k167_27 ?_
    refine ev_cV2i k167_29 cs_238 (by first | assumption | rfl) (by omega) (Nat.le_of_ble_eq_true rfl) rfl rfl rfl ?_
    refine sm_error (k := 1) (by decide) (by decide) ?_
    refine ev_ri k167_32 rfl ?_
    first | exact ⟨rfl, Inv_e rfl rfl inv⟩ | exact ⟨rfl, inv⟩
/-- CV.change -/
theorem op_change {X : Nat × (Nat → Int32)} {d : Nat} {I : mm_I} {P : Int32 → mm_I → Prop} {a : Int32} {b : Int32} {e : Int32} (inv : Inv I) (hQ : ∀ v J, mm_Ev mm_T0 X (d + 60) 168 0 (mm_ent 168 [.ref 91, .int a, .int b, .int e]) [] J (mm_pi fun w K => w = v ∧ Inv K) → P v J) : mm_Ev mm_T0 X (d + 60) 83 0 (mm_ent 83 [.ref 0, .int a, .int b, .int e]) [] I (mm_pi P) := by
  show mm_Ev mm_T0 X (d + 60) 83 0 [.ref 0, .int a, .int b, .int e, .retAddr 0, .retAddr 0] [] I (mm_pi P)
  obtain ⟨nc, np, hs⟩ := inv.1
  obtain ⟨c1, n6, p1, p6, rc, rp, rm, ok, sr, tt⟩ := hsF hs
  have t0 := tCV
  have tm := tM
  have tr := tR
  refine ev_ald0 k83_0 ?_
  refine ev_ild1 k83_1 ?_
  refine ev_cV2i k83_2 cs_183 (by first | assumption | rfl) (by omega) (Nat.le_of_ble_eq_true rfl) rfl rfl rfl ?_
  refine sp_cMember p1 ?_
  refine ev_ifz_eq k83_5 (fun h5 => ?_) (fun h5 => ?_)
  ·
    refine ev_ald0 k83_17 ?_
    refine ev_ldc k83_18 ?_
    refine ev_cV2i k83_20 cs_174 (by first | assumption | rfl) (by omega) (Nat.le_of_ble_eq_true rfl) rfl rfl rfl ?_
    refine sp_error (k := 1) (by decide) (by decide) (by decide) ?_
    refine ev_ri k83_23 rfl ?_
    refine hQ _ _ ?_
    show mm_Ev mm_T0 X (d + 60) 168 0 [.ref 91, .int _, .int _, .int _, .retAddr 0] [] _ (mm_pi _)
    refine ev_ald0 k168_0 ?_
    refine ev_ild1 k168_1 ?_
    refine ev_cV2i k168_2 cs_245 (by first | assumption | rfl) (by omega) (Nat.le_of_ble_eq_true rfl) rfl rfl rfl ?_
    refine sm_cMember (show _ = nI np from rp) ?_
    refine ev_ifz_eq k168_5 (fun g5 => ?_) (fun g5 => Bool.noConfusion (Eq.trans (Eq.symm h5) g5))
    refine ev_iconst k168_40 ?_
    refine ev_ist4 k168_41 rfl ?_
    refine ev_ild4 k168_43 ?_
    refine ev_if_eq k168_45 (fun g45 => ?_) (fun g45 => absurd rfl g45)
    refine ev_ald0 k168_64 ?_
    refine ev_ldc k168_65 ?_
    refine ev_cV2i k168_67 cs_238 (by first | assumption | rfl) (by omega) (Nat.le_of_ble_eq_true rfl) rfl rfl rfl ?_
    refine sm_error (k := 1) (by decide) (by decide) ?_
    refine ev_ri k168_70 rfl ?_
    first | exact ⟨rfl, Inv_e rfl rfl inv⟩ | exact ⟨rfl, inv⟩
  ·
    obtain ⟨p, hp, rfl⟩ := wB_in (n := np) (by omega) h5
    refine ev_ild2 k83_8 ?_
    refine ev_iconst k83_9 ?_
    refine ev_iconst k83_10 ?_
    refine ev_cS3i k83_11 cs_179 rfl rfl rfl ?_
    refine sp_isWithin ?_
    refine ev_ifz_ne k83_14 (fun h14 => ?_) (fun h14 => ?_)
    ·
      obtain ⟨w, hw, rfl⟩ := wB_le (hi := 1) (by omega) h14
      refine ev_ild2 k83_24 ?_
      refine ev_if_ne k83_25 (fun h25 => ?_) (fun h25 => ?_)
      ·
        obtain rfl : w = 1 := n11 hw h25
        refine ev_ild3 k83_38 ?_
        refine ev_cS1i k83_39 cs_181 rfl rfl rfl ?_
        refine sp_isBill ?_
        refine ev_ifz_ne k83_42 (fun h42 => ?_) (fun h42 => ?_)
        ·
          refine ev_ild2 k83_52 ?_
          refine ev_if_ne k83_53 (fun h53 => ?_) (fun h53 => absurd h53 (by decide))
          obtain ⟨x, hx, rfl⟩ := wB_le (hi := 7) (by omega) h42
          refine ev_ald0 k83_66 ?_
          refine ev_getr k83_67 (by first | assumption | rfl) rfl rfl rfl ?_
          refine ev_getr k83_70 (by first | assumption | rfl) rfl rfl rfl ?_
          refine ev_ast4 k83_73 rfl ?_
          refine ev_ald4 k83_75 ?_
          refine ev_ild1 k83_77 ?_
          refine ev_ial (j := p) k83_78 (by first | assumption | rfl) (by omega) (nI_clamp (by omega)) (vp_in_nI (show p < 6 by omega) (by omega)) ?_
          refine ev_ist5 k83_79 rfl ?_
          refine ev_ald4 k83_81 ?_
          refine ev_ild1 k83_83 ?_
          refine ev_ild3 k83_84 ?_
          refine ev_ias (j := p) k83_85 (by first | assumption | rfl) (nI_clamp (by omega)) (vp_in_nI (show p < 6 by omega) (by omega)) ?_
          refine ev_ild5 k83_86 ?_
          refine ev_ri k83_88 rfl ?_
          refine hQ _ _ ?_
          show mm_Ev mm_T0 X (d + 60) 168 0 [.ref 91, .int _, .int _, .int _, .retAddr 0] [] _ (mm_pi _)
          refine ev_ald0 k168_0 ?_
          refine ev_ild1 k168_1 ?_
          refine ev_cV2i k168_2 cs_245 (by first | assumption | rfl) (by omega) (Nat.le_of_ble_eq_true rfl) rfl rfl rfl ?_
          refine sm_cMember (show _ = nI np from rp) ?_
          refine ev_ifz_eq k168_5 (fun g5 => Bool.noConfusion (Eq.trans (Eq.symm h5) g5)) (fun g5 => ?_)
          refine ev_ild2 k168_8 ?_
          refine ev_iconst k168_9 ?_
          refine ev_iconst k168_10 ?_
          refine ev_cS3i k168_11 cs_224 rfl rfl rfl ?_
          refine sp_in ?_
          refine ev_ifz_eq k168_14 (fun g14 => Bool.noConfusion (Eq.trans (Eq.symm h14) g14)) (fun g14 => ?_)
          refine ev_ild3 k168_17 ?_
          refine ev_iconst k168_18 ?_
          refine ev_ild2 k168_19 ?_
          refine ev_if_ne k168_20 (fun g20 => ?_) (fun g20 => absurd g20 (by decide))
          refine ev_bipush k168_28 ?_
          refine ev_cS3i k168_30 cs_224 rfl rfl rfl ?_
          refine sp_in ?_
          refine ev_ifz_eq k168_33 (fun g33 => Bool.noConfusion (Eq.trans (Eq.symm h42) g33)) (fun g33 => ?_)
          refine ev_iconst k168_36 ?_
          refine ev_goto k168_37 ?_
          refine ev_ist4 k168_41 rfl ?_
          refine ev_ild4 k168_43 ?_
          refine ev_if_eq k168_45 (fun g45 => absurd g45 (by decide)) (fun g45 => ?_)
          refine ev_ald0 k168_48 ?_
          refine ev_bipush k168_49 ?_
          refine ev_iconst k168_51 ?_
          refine ev_ild1 k168_52 ?_
          refine ev_imul k168_53 ?_
          refine ev_iadd k168_54 ?_
          refine ev_ild2 k168_55 ?_
          refine ev_iadd k168_56 ?_
          refine ev_ild3 k168_57 ?_
          refine ev_cV3i k168_58 cs_241 (by first | assumption | rfl) (by omega) (Nat.le_of_ble_eq_true rfl) rfl rfl rfl ?_
          rw [idx31]
          refine sm_becomes (by omega) ?_
          refine ev_goto k168_61 ?_
          refine ev_ri k168_70 rfl ?_
          exact ⟨(rm.2.2.1 p hp).2.1, Inv_up1 7 (by decide) inv (HS_member (w := 1) (by decide) hp (fun z => absurd z (by decide)) (fun _ => ⟨x, by omega, rfl⟩) (fun z => absurd z (by decide)) hs)⟩
        ·
          refine ev_ald0 k83_45 ?_
          refine ev_ldc k83_46 ?_
          refine ev_cV2i k83_48 cs_174 (by first | assumption | rfl) (by omega) (Nat.le_of_ble_eq_true rfl) rfl rfl rfl ?_
          refine sp_error (k := 1) (by decide) (by decide) (by decide) ?_
          refine ev_ri k83_51 rfl ?_
          refine hQ _ _ ?_
          show mm_Ev mm_T0 X (d + 60) 168 0 [.ref 91, .int _, .int _, .int _, .retAddr 0] [] _ (mm_pi _)
          refine ev_ald0 k168_0 ?_
          refine ev_ild1 k168_1 ?_
          refine ev_cV2i k168_2 cs_245 (by first | assumption | rfl) (by omega) (Nat.le_of_ble_eq_true rfl) rfl rfl rfl ?_
          refine sm_cMember (show _ = nI np from rp) ?_
          refine ev_ifz_eq k168_5 (fun g5 => Bool.noConfusion (Eq.trans (Eq.symm h5) g5)) (fun g5 => ?_)
          refine ev_ild2 k168_8 ?_
          refine ev_iconst k168_9 ?_
          refine ev_iconst k168_10 ?_
          refine ev_cS3i k168_11 cs_224 rfl rfl rfl ?_
          refine sp_in ?_
          refine ev_ifz_eq k168_14 (fun g14 => Bool.noConfusion (Eq.trans (Eq.symm h14) g14)) (fun g14 => ?_)
          refine ev_ild3 k168_17 ?_
          refine ev_iconst k168_18 ?_
          refine ev_ild2 k168_19 ?_
          refine ev_if_ne k168_20 (fun g20 => ?_) (fun g20 => absurd g20 (by decide))
          refine ev_bipush k168_28 ?_
          refine ev_cS3i k168_30 cs_224 rfl rfl rfl ?_
          refine sp_in ?_
          refine ev_ifz_eq k168_33 (fun g33 => ?_) (fun g33 => Bool.noConfusion (Eq.trans (Eq.symm h42) g33))
          refine ev_iconst k168_40 ?_
          refine ev_ist4 k168_41 rfl ?_
          refine ev_ild4 k168_43 ?_
          refine ev_if_eq k168_45 (fun g45 => ?_) (fun g45 => absurd rfl g45)
          refine ev_ald0 k168_64 ?_
          refine ev_ldc k168_65 ?_
          refine ev_cV2i k168_67 cs_238 (by first | assumption | rfl) (by omega) (Nat.le_of_ble_eq_true rfl) rfl rfl rfl ?_
          refine sm_error (k := 1) (by decide) (by decide) ?_
          refine ev_ri k168_70 rfl ?_
          first | exact ⟨rfl, Inv_e rfl rfl inv⟩ | exact ⟨rfl, inv⟩
      ·
        obtain rfl : w = 0 := n01 hw h25
        refine ev_ild3 k83_28 ?_
        refine ev_cS1i k83_29 cs_184 rfl rfl rfl ?_
        refine sp_isSpeed ?_
        refine ev_ifz_ne k83_32 (fun h32 => ?_) (fun h32 => ?_)
        ·
          refine ev_ild2 k83_52 ?_
          refine ev_if_ne k83_53 (fun h53 => absurd rfl h53) (fun h53 => ?_)
          obtain ⟨x, hx, rfl⟩ := wB_le (hi := 99) (by omega) h32
          refine ev_ald0 k83_56 ?_
          refine ev_getr k83_57 (by first | assumption | rfl) rfl rfl rfl ?_
          refine ev_getr k83_60 (by first | assumption | rfl) rfl rfl rfl ?_
          refine ev_goto k83_63 ?_
          refine ev_ast4 k83_73 rfl ?_
          refine ev_ald4 k83_75 ?_
          refine ev_ild1 k83_77 ?_
          refine ev_ial (j := p) k83_78 (by first | assumption | rfl) (by omega) (nI_clamp (by omega)) (vp_in_nI (show p < 6 by omega) (by omega)) ?_
          refine ev_ist5 k83_79 rfl ?_
          refine ev_ald4 k83_81 ?_
          refine ev_ild1 k83_83 ?_
          refine ev_ild3 k83_84 ?_
          refine ev_ias (j := p) k83_85 (by first | assumption | rfl) (nI_clamp (by omega)) (vp_in_nI (show p < 6 by omega) (by omega)) ?_
          refine ev_ild5 k83_86 ?_
          refine ev_ri k83_88 rfl ?_
          refine hQ _ _ ?_
          show mm_Ev mm_T0 X (d + 60) 168 0 [.ref 91, .int _, .int _, .int _, .retAddr 0] [] _ (mm_pi _)
          refine ev_ald0 k168_0 ?_
          refine ev_ild1 k168_1 ?_
          refine ev_cV2i k168_2 cs_245 (by first | assumption | rfl) (by omega) (Nat.le_of_ble_eq_true rfl) rfl rfl rfl ?_
          refine sm_cMember (show _ = nI np from rp) ?_
          refine ev_ifz_eq k168_5 (fun g5 => Bool.noConfusion (Eq.trans (Eq.symm h5) g5)) (fun g5 => ?_)
          refine ev_ild2 k168_8 ?_
          refine ev_iconst k168_9 ?_
          refine ev_iconst k168_10 ?_
          refine ev_cS3i k168_11 cs_224 rfl rfl rfl ?_
          refine sp_in ?_
          refine ev_ifz_eq k168_14 (fun g14 => Bool.noConfusion (Eq.trans (Eq.symm h14) g14)) (fun g14 => ?_)
          refine ev_ild3 k168_17 ?_
          refine ev_iconst k168_18 ?_
          refine ev_ild2 k168_19 ?_
          refine ev_if_ne k168_20 (fun g20 => absurd rfl g20) (fun g20 => ?_)
          refine ev_bipush k168_23 ?_
          refine ev_goto k168_25 ?_
          refine ev_cS3i k168_30 cs_224 rfl rfl rfl ?_
          refine sp_in ?_
          refine ev_ifz_eq k168_33 (fun g33 => Bool.noConfusion (Eq.trans (Eq.symm h32) g33)) (fun g33 => ?_)
          refine ev_iconst k168_36 ?_
          refine ev_goto k168_37 ?_
          refine ev_ist4 k168_41 rfl ?_
          refine ev_ild4 k168_43 ?_
          refine ev_if_eq k168_45 (fun g45 => absurd g45 (by decide)) (fun g45 => ?_)
          refine ev_ald0 k168_48 ?_
          refine ev_bipush k168_49 ?_
          refine ev_iconst k168_51 ?_
          refine ev_ild1 k168_52 ?_
          refine ev_imul k168_53 ?_
          refine ev_iadd k168_54 ?_
          refine ev_ild2 k168_55 ?_
          refine ev_iadd k168_56 ?_
          refine ev_ild3 k168_57 ?_
          refine ev_cV3i k168_58 cs_241 (by first | assumption | rfl) (by omega) (Nat.le_of_ble_eq_true rfl) rfl rfl rfl ?_
          rw [idx31]
          refine sm_becomes (by omega) ?_
          refine ev_goto k168_61 ?_
          refine ev_ri k168_70 rfl ?_
          exact ⟨(rm.2.2.1 p hp).1, Inv_up1 6 (by decide) inv (HS_member (w := 0) (by decide) hp (fun _ => ⟨x, by omega, rfl⟩) (fun z => absurd z (by decide)) (fun z => absurd z (by decide)) hs)⟩
        ·
          refine ev_goto k83_35 ?_
          refine ev_ald0 k83_45 ?_
          refine ev_ldc k83_46 ?_
          refine ev_cV2i k83_48 cs_174 (by first | assumption | rfl) (by omega) (Nat.le_of_ble_eq_true rfl) rfl rfl rfl ?_
          refine sp_error (k := 1) (by decide) (by decide) (by decide) ?_
          refine ev_ri k83_51 rfl ?_
          refine hQ _ _ ?_
          show mm_Ev mm_T0 X (d + 60) 168 0 [.ref 91, .int _, .int _, .int _, .retAddr 0] [] _ (mm_pi _)
          refine ev_ald0 k168_0 ?_
          refine ev_ild1 k168_1 ?_
          refine ev_cV2i k168_2 cs_245 (by first | assumption | rfl) (by omega) (Nat.le_of_ble_eq_true rfl) rfl rfl rfl ?_
          refine sm_cMember (show _ = nI np from rp) ?_
          refine ev_ifz_eq k168_5 (fun g5 => Bool.noConfusion (Eq.trans (Eq.symm h5) g5)) (fun g5 => ?_)
          refine ev_ild2 k168_8 ?_
          refine ev_iconst k168_9 ?_
          refine ev_iconst k168_10 ?_
          refine ev_cS3i k168_11 cs_224 rfl rfl rfl ?_
          refine sp_in ?_
          refine ev_ifz_eq k168_14 (fun g14 => Bool.noConfusion (Eq.trans (Eq.symm h14) g14)) (fun g14 => ?_)
          refine ev_ild3 k168_17 ?_
          refine ev_iconst k168_18 ?_
          refine ev_ild2 k168_19 ?_
          refine ev_if_ne k168_20 (fun g20 => absurd rfl g20) (fun g20 => ?_)
          refine ev_bipush k168_23 ?_
          refine ev_goto k168_25 ?_
          refine ev_cS3i k168_30 cs_224 rfl rfl rfl ?_
          refine sp_in ?_
          refine ev_ifz_eq k168_33 (fun g33 => ?_) (fun g33 => Bool.noConfusion (Eq.trans (Eq.symm h32) g33))
          refine ev_iconst k168_40 ?_
          refine ev_ist4 k168_41 rfl ?_
          refine ev_ild4 k168_43 ?_
          refine ev_if_eq k168_45 (fun g45 => ?_) (fun g45 => absurd rfl g45)
          refine ev_ald0 k168_64 ?_
          refine ev_ldc k168_65 ?_
          refine ev_cV2i k168_67 cs_238 (by first | assumption | rfl) (by omega) (Nat.le_of_ble_eq_true rfl) rfl rfl rfl ?_
          refine sm_error (k := 1) (by decide) (by decide) ?_
          refine ev_ri k168_70 rfl ?_
          first | exact ⟨rfl, Inv_e rfl rfl inv⟩ | exact ⟨rfl, inv⟩
    ·
      refine ev_ald0 k83_17 ?_
      refine ev_ldc k83_18 ?_
      refine ev_cV2i k83_20 cs_174 (by first | assumption | rfl) (by omega) (Nat.le_of_ble_eq_true rfl) rfl rfl rfl ?_
      refine sp_error (k := 1) (by decide) (by decide) (by decide) ?_
      refine ev_ri k83_23 rfl ?_
      refine hQ _ _ ?_
      show mm_Ev mm_T0 X (d + 60) 168 0 [.ref 91, .int _, .int _, .int _, .retAddr 0] [] _ (mm_pi _)
      refine ev_ald0 k168_0 ?_
      refine ev_ild1 k168_1 ?_
      refine ev_cV2i k168_2 cs_245 (by first | assumption | rfl) (by omega) (Nat.le_of_ble_eq_true rfl) rfl rfl rfl ?_
      refine sm_cMember (show _ = nI np from rp) ?_
      refine ev_ifz_eq k168_5 (fun g5 => Bool.noConfusion (Eq.trans (Eq.symm h5) g5)) (fun g5 => ?_)
      refine ev_ild2 k168_8 ?_
      refine ev_iconst k168_9 ?_
      refine ev_iconst k168_10 ?_
      refine ev_cS3i k168_11 cs_224 rfl rfl rfl ?_
      refine sp_in ?_
      refine ev_ifz_eq k168_14 (fun g14 => ?_) (fun g14 => Bool.noConfusion (Eq.trans (Eq.symm h14) g14))
      refine ev_iconst k168_40 ?_
      refine ev_ist4 k168_41 rfl ?_
      refine ev_ild4 k168_43 ?_
      refine ev_if_eq k168_45 (fun g45 => ?_) (fun g45 => absurd rfl g45)
      refine ev_ald0 k168_64 ?_
      refine ev_ldc k168_65 ?_
      refine ev_cV2i k168_67 cs_238 (by first | assumption | rfl) (by omega) (Nat.le_of_ble_eq_true rfl) rfl rfl rfl ?_
      refine sm_error (k := 1) (by decide) (by decide) ?_
      refine ev_ri k168_70 rfl ?_
      first | exact ⟨rfl, Inv_e rfl rfl inv⟩ | exact ⟨rfl, inv⟩
/-- CV.seed -/
theorem op_seed {X : Nat × (Nat → Int32)} {d : Nat} {I : mm_I} {P : Int32 → mm_I → Prop} {a : Int32} (inv : Inv I) (hQ : ∀ v J, mm_Ev mm_T0 X (d + 60) 215 0 (mm_ent 215 [.ref 91, .int a]) [] J (mm_pi fun w K => w = v ∧ Inv K) → P v J) : mm_Ev mm_T0 X (d + 60) 102 0 (mm_ent 102 [.ref 0, .int a]) [] I (mm_pi P) := by
  show mm_Ev mm_T0 X (d + 60) 102 0 [.ref 0, .int a, .retAddr 0] [] I (mm_pi P)
  obtain ⟨nc, np, hs⟩ := inv.1
  obtain ⟨c1, n6, p1, p6, rc, rp, rm, ok, sr, tt⟩ := hsF hs
  have t0 := tCV
  have tm := tM
  have tr := tR
  refine ev_ald0 k102_0 ?_
  refine ev_getr k102_1 (by first | assumption | rfl) rfl rfl rfl ?_
  refine ev_gf (j := 17) k102_4 (by first | assumption | rfl) rfl rfl rfl rfl ?_
  refine ev_ist2 k102_7 rfl ?_
  refine ev_ald0 k102_8 ?_
  refine ev_getr k102_9 (by first | assumption | rfl) rfl rfl rfl ?_
  refine ev_ild1 k102_12 ?_
  refine ev_pf (j := 17) k102_13 (by first | assumption | rfl) rfl rfl rfl ?_
  refine ev_ild2 k102_16 ?_
  refine ev_ri k102_17 rfl ?_
  refine hQ _ _ ?_
  show mm_Ev mm_T0 X (d + 60) 215 0 [.ref 91, .int _] [] _ (mm_pi _)
  refine ev_ald0 k215_0 ?_
  refine ev_iconst k215_1 ?_
  refine ev_ild1 k215_2 ?_
  refine ev_cV3i k215_3 cs_241 (by first | assumption | rfl) (by omega) (Nat.le_of_ble_eq_true rfl) rfl rfl rfl ?_
  refine sm_becomes (j := 1) (by omega) ?_
  refine ev_ri k215_6 rfl ?_
  exact ⟨rm.2.2.2.2.1, Inv_up1 0 (by decide) inv (HS_z hs)⟩
/-- CV.told -/
theorem op_told {X : Nat × (Nat → Int32)} {d : Nat} {I : mm_I} {P : Int32 → mm_I → Prop} {a : Int32} (inv : Inv I) (hQ : ∀ v J, mm_Ev mm_T0 X (d + 60) 242 0 (mm_ent 242 [.ref 91, .int a]) [] J (mm_pi fun w K => w = v ∧ Inv K) → P v J) : mm_Ev mm_T0 X (d + 60) 115 0 (mm_ent 115 [.ref 0, .int a]) [] I (mm_pi P) := by
  show mm_Ev mm_T0 X (d + 60) 115 0 [.ref 0, .int a] [] I (mm_pi P)
  obtain ⟨nc, np, hs⟩ := inv.1
  obtain ⟨c1, n6, p1, p6, rc, rp, rm, ok, sr, tt⟩ := hsF hs
  have t0 := tCV
  have tm := tM
  have tr := tR
  refine ev_ild1 k115_0 ?_
  refine ev_iconst k115_1 ?_
  refine ev_iconst k115_2 ?_
  refine ev_cS3i k115_3 cs_179 rfl rfl rfl ?_
  refine sp_isWithin ?_
  refine ev_ifz_eq k115_6 (fun h6 => ?_) (fun h6 => ?_)
  ·
    refine ev_ald0 k115_18 ?_
    refine ev_ldc k115_19 ?_
    refine ev_cV2i k115_21 cs_174 (by first | assumption | rfl) (by omega) (Nat.le_of_ble_eq_true rfl) rfl rfl rfl ?_
    refine sp_error (k := 1) (by decide) (by decide) (by decide) ?_
    refine ev_ri k115_24 rfl ?_
    refine hQ _ _ ?_
    show mm_Ev mm_T0 X (d + 60) 242 0 [.ref 91, .int _] [] _ (mm_pi _)
    refine ev_ild1 k242_0 ?_
    refine ev_iconst k242_1 ?_
    refine ev_iconst k242_2 ?_
    refine ev_cS3i k242_3 cs_224 rfl rfl rfl ?_
    refine sp_in ?_
    refine ev_ifz_eq k242_6 (fun g6 => ?_) (fun g6 => Bool.noConfusion (Eq.trans (Eq.symm h6) g6))
    refine ev_ald0 k242_18 ?_
    refine ev_ldc k242_19 ?_
    refine ev_cV2i k242_21 cs_238 (by first | assumption | rfl) (by omega) (Nat.le_of_ble_eq_true rfl) rfl rfl rfl ?_
    refine sm_error (k := 1) (by decide) (by decide) ?_
    refine ev_ri k242_24 rfl ?_
    first | exact ⟨rfl, Inv_e rfl rfl inv⟩ | exact ⟨rfl, inv⟩
  ·
    have er := inv.2.2.1
    have t9 := t90
    have t95 := tMe
    obtain ⟨k, hk1, hk2, rfl⟩ := wB_15i h6
    refine ev_ald0 k115_9 ?_
    refine ev_getr k115_10 (by first | assumption | rfl) rfl rfl rfl ?_
    refine ev_ild1 k115_13 ?_
    refine ev_ial (j := k) k115_14 (by first | assumption | rfl) (by omega) (nI_clamp (by omega)) (vp_in_nI (show k < 6 by omega) (by omega)) ?_
    refine ev_goto k115_15 ?_
    refine ev_ri k115_24 rfl ?_
    refine hQ _ _ ?_
    show mm_Ev mm_T0 X (d + 60) 242 0 [.ref 91, .int _] [] _ (mm_pi _)
    refine ev_ild1 k242_0 ?_
    refine ev_iconst k242_1 ?_
    refine ev_iconst k242_2 ?_
    refine ev_cS3i k242_3 cs_224 rfl rfl rfl ?_
    refine sp_in ?_
    refine ev_ifz_eq k242_6 (fun g6 => Bool.noConfusion (Eq.trans (Eq.symm h6) g6)) (fun g6 => ?_)
    refine ev_ald0 k242_9 ?_
    refine ev_getr k242_10 (by first | assumption | rfl) rfl rfl rfl ?_
    refine ev_ild1 k242_13 ?_
    refine ev_ialv (j := k) k242_14 (by first | assumption | rfl) (by omega) (nI_clamp (by omega)) (vp_in_nI (show k < 6 by omega) (by omega)) ((er k (by omega)).symm) ?_
    refine ev_goto k242_15 ?_
    refine ev_ri k242_24 rfl ?_
    first | exact ⟨rfl, Inv_e rfl rfl inv⟩ | exact ⟨rfl, inv⟩
