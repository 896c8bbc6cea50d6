/-! Votes -/
theorem Inv_sc {I K : mm_I} (inv : Inv I) (h : sc I K) : Inv K := Inv_0 inv (fun k hk => h k (by omega) (by omega)) (fun k hk _ _ _ => h _ (by omega) (by omega)) (fun j _ => by rw [h 92 (by decide) (by decide)])
theorem Inv_W {I : mm_I} {nc : Nat} {g : Nat → Int32} (inv : Inv I) : Inv (hWI I 11 nc g) := Inv_0 inv (fun k hk => hWI_ne (by omega) (by omega)) (fun k hk a b c => hWI_ne (by omega) (by omega)) (fun j _ => by rw [hWI_ne (by omega) (by omega)])
theorem Inv_rp {I : mm_I} {g : Nat → Int32} (k : Nat) (hk : k = 23 ∨ k = 27) (inv : Inv I) : Inv (mm_rp I k g) := Inv_0 inv (fun k' hk' => mm_rp_ne _ _ _ (by omega)) (fun k' hk' a b c => mm_rp_ne _ _ _ (by omega)) (fun j _ => by rw [mm_rp_ne _ _ _ (by omega)])
theorem mgW {I : mm_I} {hb nc : Nat} {g : Nat → Int32} (b t : Int32) : hMg (hWI I hb nc g) hb nc b t = hMv (cells I hb) 0 nc (hWt (cells I hb) 0) b t := by
  have e : hMv I hb nc (hWt I hb) b t = hMv (cells I hb) 0 nc (hWt (cells I hb) 0) b t := rfl
  rw [← e]
  refine hMg_eq ?_ ?_ ?_ ?_ ?_ (fun c hc => ?_) b t
  · rw [hWI_ne (by omega) (by omega)]
  · rw [hWI_ne (by omega) (by omega)]
  · rw [hWI_ne (by omega) (by omega)]
  · rw [hWI_ne (by omega) (by omega)]
  · rw [hWI_ne (by omega) (by omega)]
  · unfold hWI
    rw [mm_rp_ne _ _ _ (by omega), mm_rp_at]
    unfold hWa
    rw [if_pos hc]
theorem wt5 {I : mm_I} {hb nc c : Nat} {g : Nat → Int32} (hc : c < nc) : hWI I hb nc g (hb + 5) c = hWt (cells I hb) 0 c := by
  unfold hWI
  rw [mm_rp_ne _ _ _ (by omega), mm_rp_at]
  unfold hWa
  rw [if_pos hc]
  rfl
theorem hSy_W {I : mm_I} {hb nc c : Nat} {g : Nat → Int32} (b t : Int32) : hSy (hWI I hb nc g) hb c b t = hSy (cells I hb) 0 c b t := by
  have e : hSy I hb c b t = hSy (cells I hb) 0 c b t := rfl
  rw [← e]
  unfold hSy hK
  rw [hWI_ne (by omega) (by omega), hOp_congr (I := I) (by rw [hWI_ne (by omega) (by omega)]) (hWI_ne (by omega) (by omega)) (hWI_ne (by omega) (by omega)) (hWI_ne (by omega) (by omega))]
theorem wsW {I : mm_I} {nc : Nat} {g : Nat → Int32} {b t say : Int32} (h0 : ¬ (0 : Int32) = say) : fo (hSs (hWI I 11 nc g) 11 b t say) nc 0 0 = fo (wgS (cells I 11) b t say) nc 0 0 := by
  refine fo_congr nc 0 0 (fun c x _ hc => ?_)
  unfold hSs wgS
  rw [hSy_W, wt5 (by omega)]
  by_cases h : iB t (nI c) = true
  · by_cases h2 : hSy (cells I 11) 0 c b t = say
    · rw [if_pos h2, if_pos ⟨h, h2⟩]
    · rw [if_neg h2, if_neg (fun z => h2 z.2), Int32.add_zero]
  · have h2 : ¬ hSy (cells I 11) 0 c b t = say := by
      unfold hSy
      rw [if_neg h]
      exact h0
    rw [if_neg h2, if_neg (fun z => h z.1), Int32.add_zero]
/-- the weights of a set -/
def waS (S : mm_I) (t : Int32) (c : Nat) (s : Int32) : Int32 := s + (if iB t (nI c) = true then hWt S 0 c else 0)
theorem woW {I : mm_I} {nc : Nat} {g : Nat → Int32} {t : Int32} : hWo (hWI I 11 nc g) 11 nc t = fo (waS (cells I 11) t) nc 0 0 := by
  refine fo_congr nc 0 0 (fun c x _ hc => ?_)
  unfold hWs waS
  rw [wt5 (by omega)]
  by_cases h : iB t (nI c) = true
  · rw [if_pos h, if_pos h]
  · rw [if_neg h, if_neg h, Int32.add_zero]
theorem sp_gv0 {X : Nat × (Nat → Int32)} {d : Nat} {I : mm_I} {nc : Nat} {a b c : Int32} {P : Int32 → mm_I → Prop} (ok : hOK I 11 nc) (hQ : ∀ g, P (hGv (cells I 11) 0 a b c) (mm_rp I 23 g)) : mm_Ev mm_T0 X (d + 2) 68 0 (mm_ent 68 [.ref 20, .int a, .int b, .int c]) [] I (mm_pi P) := by
  obtain ⟨-, -, -, ⟨o4, o5, o6, o7⟩, -⟩ := ok
  refine sp_gives (ta := 20) (tH9 hh11) (tH10 hh11) (tH11 hh11) (tH12 hh11) (by decide) (l := hL0 I 11) o4 o5.2.1 ?_
  rw [show I 20 2 = 0 from o6, show I 20 3 = 99 from o7, show (tv (I (20 + 2)) a b c (hL0 I 11) 0 (0, I (20 + 3))).2 0 = tx (I (11 + 11)) (hL0 I 11) a b c from tx_eq o5 a b c _]
  exact hQ _
theorem sp_gv1 {X : Nat × (Nat → Int32)} {d : Nat} {I : mm_I} {nc : Nat} {a b c : Int32} {P : Int32 → mm_I → Prop} (ok : hOK I 11 nc) (hQ : ∀ g, P (hZl (cells I 11) 0 a b c) (mm_rp I 27 g)) : mm_Ev mm_T0 X (d + 2) 68 0 (mm_ent 68 [.ref 24, .int a, .int b, .int c]) [] I (mm_pi P) := by
  obtain ⟨-, -, -, -, ⟨o4, o5, o6, o7⟩⟩ := ok
  refine sp_gives (ta := 24) (tH13 hh11) (tH14 hh11) (tH15 hh11) (tH16 hh11) (by decide) (l := hL1 I 11) o4 o5.2.1 ?_
  rw [show I 24 2 = -99 from o6, show I 24 3 = 99 from o7, show (tv (I (24 + 2)) a b c (hL1 I 11) 0 (0, I (24 + 3))).2 0 = tx (I (11 + 15)) (hL1 I 11) a b c from tx_eq o5 a b c _]
  exact hQ _
theorem tk64 {I : mm_I} {nc np : Nat} (n6 : nc ≤ 6) (sr : sR (cells I 11) nc np) : ∃ s : Nat, s < 256 ∧ hTk (cells I 11) 0 np = nI s := by
  obtain ⟨s, h1, h2, -⟩ := hTk_set n6 (wf_at sr)
  exact ⟨s, by omega, h2⟩
theorem lm_weightAll {X : Nat × (Nat → Int32)} {d : Nat} {I : mm_I} {S : mm_I} {nc np : Nat} {t : Int32} {P : Int32 → mm_I → Prop} (rm : RM S I nc np) (ok : hOK S 0 nc) (sr : sR S nc np) (tt : TR S I) (hQ : ∀ J, sc I J → P (fo (waS S t) nc 0 0) J) : ∀ (n i : Nat) (J : mm_I) (w : Int32), i + n = nc → (sc I J ∧ fo (waS S t) n i w = fo (waS S t) nc 0 0) → mm_Ev mm_T0 X (d + 4) 206 4 [.ref 91, .int t, .int w, .int (nI i)] [] J (mm_pi P) := by
  have tm := tM
  have tr := tR
  have hn6 := rm.1.2.1
  intro n
  induction n with
  | zero =>
    intro i J w hi hv
    have e : i = nc := by omega
    subst e
    refine ev_ild3 k206_4 ?_
    refine ev_ald0 k206_5 ?_
    refine ev_getr k206_6 (by first | assumption | rfl) rfl rfl rfl ?_
    refine ev_iconst k206_9 ?_
    refine ev_ialv (j := 2) k206_10 (by first | assumption | rfl) (by omega) rfl (vp_dec rfl) ((congrFun (hv.1 92 (by decide) (by decide)) 2).trans rm.1.1) ?_
    refine ev_jcmp_ge k206_11 (fun h11 => ?_) (fun h11 => absurd h11 (nI_nlt (Nat.le_refl _) (by omega)))
    refine ev_ild2 k206_41 ?_
    refine ev_ri k206_42 rfl ?_
    have e := hv.2
    rw [show fo (waS S t) 0 i w = w from rfl] at e
    rw [e]
    exact hQ J hv.1
  | succ n ih =>
    intro i J w hi hv
    have hlt : i < nc := by omega
    refine ev_ild3 k206_4 ?_
    refine ev_ald0 k206_5 ?_
    refine ev_getr k206_6 (by first | assumption | rfl) rfl rfl rfl ?_
    refine ev_iconst k206_9 ?_
    refine ev_ialv (j := 2) k206_10 (by first | assumption | rfl) (by omega) rfl (vp_dec rfl) ((congrFun (hv.1 92 (by decide) (by decide)) 2).trans rm.1.1) ?_
    refine ev_jcmp_ge k206_11 (fun h11 => absurd (nI_lt hlt (by omega)) h11) (fun h11 => ?_)
    refine ev_ild2 k206_14 ?_
    refine ev_ild1 k206_15 ?_
    refine ev_ild3 k206_16 ?_
    refine ev_ishr k206_17 ?_
    refine ev_iconst k206_18 ?_
    refine ev_iand k206_19 ?_
    refine ev_iconst k206_20 ?_
    refine ev_icmp_ne k206_21 (fun h21 => ?_) (fun h21 => ?_)
    ·
      refine ev_iconst k206_32 ?_
      refine ev_iadd k206_33 ?_
      refine ev_ist2 k206_34 rfl ?_
      refine ev_inc3 k206_35 rfl ?_
      refine ev_goto k206_38 ?_
      rw [nI_1]
      have e : waS S t i w = w + 0 := by unfold waS; rw [if_neg (show ¬ iB t (nI i) = true from fun z => h21 (of_decide_eq_true z))]
      refine ih (i + 1) J _ (by omega) ⟨hv.1, ?_⟩
      rw [← e]; exact hv.2
    ·
      refine ev_ald0 k206_24 ?_
      refine ev_ild3 k206_25 ?_
      refine ev_cV2i k206_26 cs_233 (by first | assumption | rfl) (by omega) (Nat.le_of_ble_eq_true rfl) rfl rfl rfl ?_
      refine sm_weightOf (RM_congr (hv.1 92 (by decide) (by decide)) rm) ok sr (TR_congr (hv.1 92 (by decide) (by decide)) tt) hlt (fun K hK => ?_)
      refine ev_goto k206_29 ?_
      refine ev_iadd k206_33 ?_
      refine ev_ist2 k206_34 rfl ?_
      refine ev_inc3 k206_35 rfl ?_
      refine ev_goto k206_38 ?_
      rw [nI_1]
      have e : waS S t i w = w + hWt S 0 i := by unfold waS; rw [if_pos (show iB t (nI i) = true from decide_eq_true h21)]
      refine ih (i + 1) K _ (by omega) ⟨sc_tr hv.1 hK, ?_⟩
      rw [← e]; exact hv.2
/-- Model.weightAll -/
theorem sm_weightAll {X : Nat × (Nat → Int32)} {d : Nat} {I : mm_I} {S : mm_I} {nc np : Nat} {t : Int32} {P : Int32 → mm_I → Prop} (rm : RM S I nc np) (ok : hOK S 0 nc) (sr : sR S nc np) (tt : TR S I) (hQ : ∀ J, sc I J → P (fo (waS S t) nc 0 0) J) : mm_Ev mm_T0 X (d + 4) 206 0 (mm_ent 206 [.ref 91, .int t]) [] I (mm_pi P) := by
  show mm_Ev mm_T0 X (d + 4) 206 0 [.ref 91, .int t, .retAddr 0, .retAddr 0] [] I (mm_pi P)
  refine ev_iconst k206_0 ?_
  refine ev_ist2 k206_1 rfl ?_
  refine ev_iconst k206_2 ?_
  refine ev_ist3 k206_3 rfl ?_
  exact lm_weightAll rm ok sr tt hQ nc 0 I 0 (by omega) ⟨sc_rf I, rfl⟩
/-- CV.ofChair -/
theorem op_ofChair {X : Nat × (Nat → Int32)} {d : Nat} {I : mm_I} {P : Int32 → mm_I → Prop} {a : Int32} {b : Int32} (inv : Inv I) (hQ : ∀ v J, mm_Ev mm_T0 X (d + 60) 161 0 (mm_ent 161 [.ref 91, .int a, .int b]) [] J (mm_pi fun w K => w = v ∧ Inv K) → P v J) : mm_Ev mm_T0 X (d + 60) 77 0 (mm_ent 77 [.ref 0, .int a, .int b]) [] I (mm_pi P) := by
  show mm_Ev mm_T0 X (d + 60) 77 0 [.ref 0, .int a, .int b] [] I (mm_pi P)
  obtain ⟨nc, np, hs⟩ := inv.1
  obtain ⟨c1, n6, p1, p6, rc, rp, rm, ok, sr, tt⟩ := hsF hs
  have t0 := tCV
  have tm := tM
  have tr := tR
  refine ev_ald0 k77_0 ?_
  refine ev_ild1 k77_1 ?_
  refine ev_cV2i k77_2 cs_176 (by first | assumption | rfl) (by omega) (Nat.le_of_ble_eq_true rfl) rfl rfl rfl ?_
  refine sp_cChair c1 ?_
  refine ev_ifz_ne k77_5 (fun h5 => ?_) (fun h5 => ?_)
  ·
    obtain ⟨c, hc, rfl⟩ := wB_in (n := nc) (by omega) h5
    refine ev_ild2 k77_15 ?_
    refine ev_tb (l := [(0, 40), (1, 50), (2, 60), (3, 70), (4, 80), (5, 89)]) k77_16 rfl rfl ?_
    refine sw_cons (key := 0) (t := 56) rfl rfl (fun h16 => ?_) (fun h16_0 => ?_)
    ·
      subst h16
      refine ev_ald0 k77_56 ?_
      refine ev_getr k77_57 (by first | assumption | rfl) rfl rfl rfl ?_
      refine ev_getr k77_60 (by first | assumption | rfl) rfl rfl rfl ?_
      refine ev_ild1 k77_63 ?_
      refine ev_ial (j := c) k77_64 (by first | assumption | rfl) (by omega) (nI_clamp (by omega)) (vp_in_nI (show c < 6 by omega) (by omega)) ?_
      refine ev_ri k77_65 rfl ?_
      refine hQ _ _ ?_
      show mm_Ev mm_T0 X (d + 60) 161 0 [.ref 91, .int _, .int _] [] _ (mm_pi _)
      refine ev_ald0 k161_0 ?_
      refine ev_ild1 k161_1 ?_
      refine ev_cV2i k161_2 cs_239 (by first | assumption | rfl) (by omega) (Nat.le_of_ble_eq_true rfl) rfl rfl rfl ?_
      refine sm_cChair (show _ = nI nc from rc) ?_
      refine ev_ifz_eq k161_5 (fun g5 => Bool.noConfusion (Eq.trans (Eq.symm h5) g5)) (fun g5 => ?_)
      refine ev_ild2 k161_8 ?_
      refine ev_iconst k161_9 ?_
      refine ev_iconst k161_10 ?_
      refine ev_cS3i k161_11 cs_224 rfl rfl rfl ?_
      refine sp_in ?_
      refine ev_ifz_ne k161_14 (fun g14 => ?_) (fun g14 => Bool.noConfusion (Eq.trans (Eq.symm (show wB 0 5 _ = true from by decide)) g14))
      refine ev_ild2 k161_24 ?_
      refine ev_iconst k161_25 ?_
      refine ev_jcmp_ge k161_26 (fun g26 => absurd (by decide) g26) (fun g26 => ?_)
      refine ev_ald0 k161_29 ?_
      refine ev_ild1 k161_30 ?_
      refine ev_ild2 k161_31 ?_
      refine ev_cV3i k161_32 cs_226 (by first | assumption | rfl) (by omega) (Nat.le_of_ble_eq_true rfl) rfl rfl rfl ?_
      refine sm_ofv (w := 0) (show c < 6 by omega) (by decide) (rm.2.1 c hc).1 ?_
      refine ev_goto k161_35 ?_
      refine ev_ri k161_56 rfl ?_
      first | exact ⟨rfl, Inv_e rfl rfl inv⟩ | exact ⟨rfl, inv⟩
    refine sw_cons (key := 1) (t := 66) rfl rfl (fun h16 => ?_) (fun h16_1 => ?_)
    ·
      subst h16
      refine ev_ald0 k77_66 ?_
      refine ev_getr k77_67 (by first | assumption | rfl) rfl rfl rfl ?_
      refine ev_getr k77_70 (by first | assumption | rfl) rfl rfl rfl ?_
      refine ev_ild1 k77_73 ?_
      refine ev_ial (j := c) k77_74 (by first | assumption | rfl) (by omega) (nI_clamp (by omega)) (vp_in_nI (show c < 6 by omega) (by omega)) ?_
      refine ev_ri k77_75 rfl ?_
      refine hQ _ _ ?_
      show mm_Ev mm_T0 X (d + 60) 161 0 [.ref 91, .int _, .int _] [] _ (mm_pi _)
      refine ev_ald0 k161_0 ?_
      refine ev_ild1 k161_1 ?_
      refine ev_cV2i k161_2 cs_239 (by first | assumption | rfl) (by omega) (Nat.le_of_ble_eq_true rfl) rfl rfl rfl ?_
      refine sm_cChair (show _ = nI nc from rc) ?_
      refine ev_ifz_eq k161_5 (fun g5 => Bool.noConfusion (Eq.trans (Eq.symm h5) g5)) (fun g5 => ?_)
      refine ev_ild2 k161_8 ?_
      refine ev_iconst k161_9 ?_
      refine ev_iconst k161_10 ?_
      refine ev_cS3i k161_11 cs_224 rfl rfl rfl ?_
      refine sp_in ?_
      refine ev_ifz_ne k161_14 (fun g14 => ?_) (fun g14 => Bool.noConfusion (Eq.trans (Eq.symm (show wB 0 5 _ = true from by decide)) g14))
      refine ev_ild2 k161_24 ?_
      refine ev_iconst k161_25 ?_
      refine ev_jcmp_ge k161_26 (fun g26 => absurd (by decide) g26) (fun g26 => ?_)
      refine ev_ald0 k161_29 ?_
      refine ev_ild1 k161_30 ?_
      refine ev_ild2 k161_31 ?_
      refine ev_cV3i k161_32 cs_226 (by first | assumption | rfl) (by omega) (Nat.le_of_ble_eq_true rfl) rfl rfl rfl ?_
      refine sm_ofv (w := 1) (show c < 6 by omega) (by decide) (rm.2.1 c hc).2.1 ?_
      refine ev_goto k161_35 ?_
      refine ev_ri k161_56 rfl ?_
      first | exact ⟨rfl, Inv_e rfl rfl inv⟩ | exact ⟨rfl, inv⟩
    refine sw_cons (key := 2) (t := 76) rfl rfl (fun h16 => ?_) (fun h16_2 => ?_)
    ·
      subst h16
      refine ev_ald0 k77_76 ?_
      refine ev_getr k77_77 (by first | assumption | rfl) rfl rfl rfl ?_
      refine ev_getr k77_80 (by first | assumption | rfl) rfl rfl rfl ?_
      refine ev_ild1 k77_83 ?_
      refine ev_ial (j := c) k77_84 (by first | assumption | rfl) (by omega) (nI_clamp (by omega)) (vp_in_nI (show c < 6 by omega) (by omega)) ?_
      refine ev_ri k77_85 rfl ?_
      refine hQ _ _ ?_
      show mm_Ev mm_T0 X (d + 60) 161 0 [.ref 91, .int _, .int _] [] _ (mm_pi _)
      refine ev_ald0 k161_0 ?_
      refine ev_ild1 k161_1 ?_
      refine ev_cV2i k161_2 cs_239 (by first | assumption | rfl) (by omega) (Nat.le_of_ble_eq_true rfl) rfl rfl rfl ?_
      refine sm_cChair (show _ = nI nc from rc) ?_
      refine ev_ifz_eq k161_5 (fun g5 => Bool.noConfusion (Eq.trans (Eq.symm h5) g5)) (fun g5 => ?_)
      refine ev_ild2 k161_8 ?_
      refine ev_iconst k161_9 ?_
      refine ev_iconst k161_10 ?_
      refine ev_cS3i k161_11 cs_224 rfl rfl rfl ?_
      refine sp_in ?_
      refine ev_ifz_ne k161_14 (fun g14 => ?_) (fun g14 => Bool.noConfusion (Eq.trans (Eq.symm (show wB 0 5 _ = true from by decide)) g14))
      refine ev_ild2 k161_24 ?_
      refine ev_iconst k161_25 ?_
      refine ev_jcmp_ge k161_26 (fun g26 => absurd (by decide) g26) (fun g26 => ?_)
      refine ev_ald0 k161_29 ?_
      refine ev_ild1 k161_30 ?_
      refine ev_ild2 k161_31 ?_
      refine ev_cV3i k161_32 cs_226 (by first | assumption | rfl) (by omega) (Nat.le_of_ble_eq_true rfl) rfl rfl rfl ?_
      refine sm_ofv (w := 2) (show c < 6 by omega) (by decide) (rm.2.1 c hc).2.2.1 ?_
      refine ev_goto k161_35 ?_
      refine ev_ri k161_56 rfl ?_
      first | exact ⟨rfl, Inv_e rfl rfl inv⟩ | exact ⟨rfl, inv⟩
    refine sw_cons (key := 3) (t := 86) rfl rfl (fun h16 => ?_) (fun h16_3 => ?_)
    ·
      subst h16
      refine ev_ald0 k77_86 ?_
      refine ev_getr k77_87 (by first | assumption | rfl) rfl rfl rfl ?_
      refine ev_getr k77_90 (by first | assumption | rfl) rfl rfl rfl ?_
      refine ev_ild1 k77_93 ?_
      refine ev_ial (j := c) k77_94 (by first | assumption | rfl) (by omega) (nI_clamp (by omega)) (vp_in_nI (show c < 6 by omega) (by omega)) ?_
      refine ev_ri k77_95 rfl ?_
      refine hQ _ _ ?_
      show mm_Ev mm_T0 X (d + 60) 161 0 [.ref 91, .int _, .int _] [] _ (mm_pi _)
      refine ev_ald0 k161_0 ?_
      refine ev_ild1 k161_1 ?_
      refine ev_cV2i k161_2 cs_239 (by first | assumption | rfl) (by omega) (Nat.le_of_ble_eq_true rfl) rfl rfl rfl ?_
      refine sm_cChair (show _ = nI nc from rc) ?_
      refine ev_ifz_eq k161_5 (fun g5 => Bool.noConfusion (Eq.trans (Eq.symm h5) g5)) (fun g5 => ?_)
      refine ev_ild2 k161_8 ?_
      refine ev_iconst k161_9 ?_
      refine ev_iconst k161_10 ?_
      refine ev_cS3i k161_11 cs_224 rfl rfl rfl ?_
      refine sp_in ?_
      refine ev_ifz_ne k161_14 (fun g14 => ?_) (fun g14 => Bool.noConfusion (Eq.trans (Eq.symm (show wB 0 5 _ = true from by decide)) g14))
      refine ev_ild2 k161_24 ?_
      refine ev_iconst k161_25 ?_
      refine ev_jcmp_ge k161_26 (fun g26 => absurd (by decide) g26) (fun g26 => ?_)
      refine ev_ald0 k161_29 ?_
      refine ev_ild1 k161_30 ?_
      refine ev_ild2 k161_31 ?_
      refine ev_cV3i k161_32 cs_226 (by first | assumption | rfl) (by omega) (Nat.le_of_ble_eq_true rfl) rfl rfl rfl ?_
      refine sm_ofv (w := 3) (show c < 6 by omega) (by decide) (rm.2.1 c hc).2.2.2 ?_
      refine ev_goto k161_35 ?_
      refine ev_ri k161_56 rfl ?_
      first | exact ⟨rfl, Inv_e rfl rfl inv⟩ | exact ⟨rfl, inv⟩
    refine sw_cons (key := 4) (t := 96) rfl rfl (fun h16 => ?_) (fun h16_4 => ?_)
    ·
      subst h16
      refine ev_ald0 k77_96 ?_
      refine ev_getr k77_97 (by first | assumption | rfl) rfl rfl rfl ?_
      refine ev_ild1 k77_100 ?_
      refine ev_cV2i k77_101 cs_177 (by first | assumption | rfl) (by omega) (Nat.le_of_ble_eq_true rfl) rfl rfl rfl ?_
      refine sp_sitterOf hh11 p1 p6 ?_
      refine ev_ri k77_104 rfl ?_
      refine hQ _ _ ?_
      show mm_Ev mm_T0 X (d + 60) 161 0 [.ref 91, .int _, .int _] [] _ (mm_pi _)
      refine ev_ald0 k161_0 ?_
      refine ev_ild1 k161_1 ?_
      refine ev_cV2i k161_2 cs_239 (by first | assumption | rfl) (by omega) (Nat.le_of_ble_eq_true rfl) rfl rfl rfl ?_
      refine sm_cChair (show _ = nI nc from rc) ?_
      refine ev_ifz_eq k161_5 (fun g5 => Bool.noConfusion (Eq.trans (Eq.symm h5) g5)) (fun g5 => ?_)
      refine ev_ild2 k161_8 ?_
      refine ev_iconst k161_9 ?_
      refine ev_iconst k161_10 ?_
      refine ev_cS3i k161_11 cs_224 rfl rfl rfl ?_
      refine sp_in ?_
      refine ev_ifz_ne k161_14 (fun g14 => ?_) (fun g14 => Bool.noConfusion (Eq.trans (Eq.symm (show wB 0 5 _ = true from by decide)) g14))
      refine ev_ild2 k161_24 ?_
      refine ev_iconst k161_25 ?_
      refine ev_jcmp_ge k161_26 (fun g26 => ?_) (fun g26 => absurd g26 (by decide))
      refine ev_ild2 k161_38 ?_
      refine ev_iconst k161_39 ?_
      refine ev_icmp_ne k161_40 (fun g40 => absurd rfl g40) (fun g40 => ?_)
      refine ev_ald0 k161_43 ?_
      refine ev_ild1 k161_44 ?_
      refine ev_cV2i k161_45 cs_240 (by first | assumption | rfl) (by omega) (Nat.le_of_ble_eq_true rfl) rfl rfl rfl ?_
      refine sm_whoAt rm ?_
      refine ev_goto k161_48 ?_
      refine ev_ri k161_56 rfl ?_
      first | exact ⟨rfl, Inv_e rfl rfl inv⟩ | exact ⟨rfl, inv⟩
    refine sw_cons (key := 5) (t := 105) rfl rfl (fun h16 => ?_) (fun h16_5 => ?_)
    ·
      subst h16
      refine ev_ald0 k77_105 ?_
      refine ev_getr k77_106 (by first | assumption | rfl) rfl rfl rfl ?_
      refine ev_ild1 k77_109 ?_
      refine ev_cV2i k77_110 cs_178 (by first | assumption | rfl) (by omega) (Nat.le_of_ble_eq_true rfl) rfl rfl rfl ?_
      refine sp_weigh hh11 ok hc (fun g => ?_)
      refine ev_ri k77_113 rfl ?_
      refine hQ _ _ ?_
      show mm_Ev mm_T0 X (d + 60) 161 0 [.ref 91, .int _, .int _] [] _ (mm_pi _)
      refine ev_ald0 k161_0 ?_
      refine ev_ild1 k161_1 ?_
      refine ev_cV2i k161_2 cs_239 (by first | assumption | rfl) (by omega) (Nat.le_of_ble_eq_true rfl) rfl rfl rfl ?_
      refine sm_cChair (show _ = nI nc from rc) ?_
      refine ev_ifz_eq k161_5 (fun g5 => Bool.noConfusion (Eq.trans (Eq.symm h5) g5)) (fun g5 => ?_)
      refine ev_ild2 k161_8 ?_
      refine ev_iconst k161_9 ?_
      refine ev_iconst k161_10 ?_
      refine ev_cS3i k161_11 cs_224 rfl rfl rfl ?_
      refine sp_in ?_
      refine ev_ifz_ne k161_14 (fun g14 => ?_) (fun g14 => Bool.noConfusion (Eq.trans (Eq.symm (show wB 0 5 _ = true from by decide)) g14))
      refine ev_ild2 k161_24 ?_
      refine ev_iconst k161_25 ?_
      refine ev_jcmp_ge k161_26 (fun g26 => ?_) (fun g26 => absurd g26 (by decide))
      refine ev_ild2 k161_38 ?_
      refine ev_iconst k161_39 ?_
      refine ev_icmp_ne k161_40 (fun g40 => ?_) (fun g40 => absurd g40 (by decide))
      refine ev_ald0 k161_51 ?_
      refine ev_ild1 k161_52 ?_
      refine ev_cV2i k161_53 cs_233 (by first | assumption | rfl) (by omega) (Nat.le_of_ble_eq_true rfl) rfl rfl rfl ?_
      refine sm_weightOf (S := cells I 11) rm ok sr tt hc (fun K hK => ?_)
      refine ev_ri k161_56 rfl ?_
      exact ⟨rfl, Inv_sc (Inv_rp 23 (Or.inl rfl) inv) hK⟩
    refine sw_nil (t := 114) rfl ?_
    refine ev_ald0 k77_114 ?_
    refine ev_ldc k77_115 ?_
    refine ev_cV2i k77_117 cs_174 (by first | assumption | rfl) (by omega) (Nat.le_of_ble_eq_true rfl) rfl rfl rfl ?_
    refine sp_error (k := 1) (by decide) (by decide) (by decide) ?_
    refine ev_ri k77_120 rfl ?_
    refine hQ _ _ ?_
    show mm_Ev mm_T0 X (d + 60) 161 0 [.ref 91, .int _, .int _] [] _ (mm_pi _)
    refine ev_ald0 k161_0 ?_
    refine ev_ild1 k161_1 ?_
    refine ev_cV2i k161_2 cs_239 (by first | assumption | rfl) (by omega) (Nat.le_of_ble_eq_true rfl) rfl rfl rfl ?_
    refine sm_cChair (show _ = nI nc from rc) ?_
    refine ev_ifz_eq k161_5 (fun g5 => Bool.noConfusion (Eq.trans (Eq.symm h5) g5)) (fun g5 => ?_)
    refine ev_ild2 k161_8 ?_
    refine ev_iconst k161_9 ?_
    refine ev_iconst k161_10 ?_
    refine ev_cS3i k161_11 cs_224 rfl rfl rfl ?_
    refine sp_in ?_
    refine ev_ifz_ne k161_14 (fun g14 => Bool.noConfusion (Eq.trans (Eq.symm (sw_5 h16_0 h16_1 h16_2 h16_3 h16_4 h16_5)) g14)) (fun g14 => ?_)
    refine ev_ald0 k161_17 ?_
    refine ev_ldc k161_18 ?_
    refine ev_cV2i k161_20 cs_238 (by first | assumption | rfl) (by omega) (Nat.le_of_ble_eq_true rfl) rfl rfl rfl ?_
    refine sm_error (k := 1) (by decide) (by decide) ?_
    refine ev_ri k161_23 rfl ?_
    first | exact ⟨rfl, Inv_e rfl rfl inv⟩ | exact ⟨rfl, inv⟩
  ·
    refine ev_ald0 k77_8 ?_
    refine ev_ldc k77_9 ?_
    refine ev_cV2i k77_11 cs_174 (by first | assumption | rfl) (by omega) (Nat.le_of_ble_eq_true rfl) rfl rfl rfl ?_
    refine sp_error (k := 1) (by decide) (by decide) (by decide) ?_
    refine ev_ri k77_14 rfl ?_
    refine hQ _ _ ?_
    show mm_Ev mm_T0 X (d + 60) 161 0 [.ref 91, .int _, .int _] [] _ (mm_pi _)
    refine ev_ald0 k161_0 ?_
    refine ev_ild1 k161_1 ?_
    refine ev_cV2i k161_2 cs_239 (by first | assumption | rfl) (by omega) (Nat.le_of_ble_eq_true rfl) rfl rfl rfl ?_
    refine sm_cChair (show _ = nI nc from rc) ?_
    refine ev_ifz_eq k161_5 (fun g5 => ?_) (fun g5 => Bool.noConfusion (Eq.trans (Eq.symm h5) g5))
    refine ev_ald0 k161_17 ?_
    refine ev_ldc k161_18 ?_
    refine ev_cV2i k161_20 cs_238 (by first | assumption | rfl) (by omega) (Nat.le_of_ble_eq_true rfl) rfl rfl rfl ?_
    refine sm_error (k := 1) (by decide) (by decide) ?_
    refine ev_ri k161_23 rfl ?_
    first | exact ⟨rfl, Inv_e rfl rfl inv⟩ | exact ⟨rfl, inv⟩
/-- CV.law -/
theorem op_law {X : Nat × (Nat → Int32)} {d : Nat} {I : mm_I} {P : Int32 → mm_I → Prop} {a : Int32} {b : Int32} {e : Int32} {f : Int32} (inv : Inv I) (hQ : ∀ v J, mm_Ev mm_T0 X (d + 60) 186 0 (mm_ent 186 [.ref 91, .int a, .int b, .int e, .int f]) [] J (mm_pi fun w K => w = v ∧ Inv K) → P v J) : mm_Ev mm_T0 X (d + 60) 87 0 (mm_ent 87 [.ref 0, .int a, .int b, .int e, .int f]) [] I (mm_pi P) := by
  show mm_Ev mm_T0 X (d + 60) 87 0 [.ref 0, .int a, .int b, .int e, .int f] [] I (mm_pi P)
  obtain ⟨nc, np, hs⟩ := inv.1
  obtain ⟨c1, n6, p1, p6, rc, rp, rm, ok, sr, tt⟩ := hsF hs
  have t0 := tCV
  have tm := tM
  have tr := tR
  refine ev_ild1 k87_0 ?_
  refine ev_cS1i k87_1 cs_186 rfl rfl rfl ?_
  refine sp_isUse ?_
  refine ev_ifz_eq k87_4 (fun h4 => ?_) (fun h4 => ?_)
  ·
    refine ev_ald0 k87_22 ?_
    refine ev_ldc k87_23 ?_
    refine ev_cV2i k87_25 cs_174 (by first | assumption | rfl) (by omega) (Nat.le_of_ble_eq_true rfl) rfl rfl rfl ?_
    refine sp_error (k := 1) (by decide) (by decide) (by decide) ?_
    refine ev_ri k87_28 rfl ?_
    refine hQ _ _ ?_
    show mm_Ev mm_T0 X (d + 60) 186 0 [.ref 91, .int _, .int _, .int _, .int _] [] _ (mm_pi _)
    refine ev_ild1 k186_0 ?_
    refine ev_iconst k186_1 ?_
    refine ev_iconst k186_2 ?_
    refine ev_cS3i k186_3 cs_224 rfl rfl rfl ?_
    refine sp_in ?_
    refine ev_ifz_eq k186_6 (fun g6 => ?_) (fun g6 => Bool.noConfusion (Eq.trans (Eq.symm h4) g6))
    refine ev_ald0 k186_21 ?_
    refine ev_ldc k186_22 ?_
    refine ev_cV2i k186_24 cs_238 (by first | assumption | rfl) (by omega) (Nat.le_of_ble_eq_true rfl) rfl rfl rfl ?_
    refine sm_error (k := 1) (by decide) (by decide) ?_
    refine ev_ri k186_27 rfl ?_
    first | exact ⟨rfl, Inv_e rfl rfl inv⟩ | exact ⟨rfl, inv⟩
  ·
    obtain ⟨w, hw, rfl⟩ := wB_le (hi := 1) (by omega) h4
    rcases (show w = 0 ∨ w = 1 by omega) with rfl | rfl
    ·
      refine ev_ald0 k87_7 ?_
      refine ev_ild1 k87_8 ?_
      refine ev_cV2r k87_9 cs_189 (by first | assumption | rfl) (by omega) (Nat.le_of_ble_eq_true rfl) rfl rfl rfl ?_
      refine sp_textOf ?_
      rw [if_pos (show nI 0 = 0 from rfl)]
      refine ev_ild2 k87_12 ?_
      refine ev_ild3 k87_13 ?_
      refine ev_ild4 k87_14 ?_
      refine ev_cV4i k87_16 cs_191 (by first | assumption | rfl) (by omega) (Nat.le_of_ble_eq_true rfl) rfl rfl rfl ?_
      refine sp_gv0 ok (fun g => ?_)
      refine ev_goto k87_19 ?_
      refine ev_ri k87_28 rfl ?_
      refine hQ _ _ ?_
      show mm_Ev mm_T0 X (d + 60) 186 0 [.ref 91, .int _, .int _, .int _, .int _] [] _ (mm_pi _)
      refine ev_ild1 k186_0 ?_
      refine ev_iconst k186_1 ?_
      refine ev_iconst k186_2 ?_
      refine ev_cS3i k186_3 cs_224 rfl rfl rfl ?_
      refine sp_in ?_
      refine ev_ifz_eq k186_6 (fun g6 => Bool.noConfusion (Eq.trans (Eq.symm h4) g6)) (fun g6 => ?_)
      refine ev_ald0 k186_9 ?_
      refine ev_ild1 k186_10 ?_
      refine ev_ild2 k186_11 ?_
      refine ev_ild3 k186_12 ?_
      refine ev_ild4 k186_13 ?_
      refine ev_cV5i k186_15 cs_231 (by first | assumption | rfl) (by omega) (Nat.le_of_ble_eq_true rfl) rfl rfl rfl ?_
      refine sm_gives0 (S := cells I 11) ok tt (fun K hK => ?_)
      refine ev_goto k186_18 ?_
      refine ev_ri k186_27 rfl ?_
      exact ⟨rfl, Inv_sc (Inv_rp 23 (by omega) inv) hK⟩
    ·
      refine ev_ald0 k87_7 ?_
      refine ev_ild1 k87_8 ?_
      refine ev_cV2r k87_9 cs_189 (by first | assumption | rfl) (by omega) (Nat.le_of_ble_eq_true rfl) rfl rfl rfl ?_
      refine sp_textOf ?_
      rw [if_neg (show ¬ nI 1 = 0 by decide)]
      refine ev_ild2 k87_12 ?_
      refine ev_ild3 k87_13 ?_
      refine ev_ild4 k87_14 ?_
      refine ev_cV4i k87_16 cs_191 (by first | assumption | rfl) (by omega) (Nat.le_of_ble_eq_true rfl) rfl rfl rfl ?_
      refine sp_gv1 ok (fun g => ?_)
      refine ev_goto k87_19 ?_
      refine ev_ri k87_28 rfl ?_
      refine hQ _ _ ?_
      show mm_Ev mm_T0 X (d + 60) 186 0 [.ref 91, .int _, .int _, .int _, .int _] [] _ (mm_pi _)
      refine ev_ild1 k186_0 ?_
      refine ev_iconst k186_1 ?_
      refine ev_iconst k186_2 ?_
      refine ev_cS3i k186_3 cs_224 rfl rfl rfl ?_
      refine sp_in ?_
      refine ev_ifz_eq k186_6 (fun g6 => Bool.noConfusion (Eq.trans (Eq.symm h4) g6)) (fun g6 => ?_)
      refine ev_ald0 k186_9 ?_
      refine ev_ild1 k186_10 ?_
      refine ev_ild2 k186_11 ?_
      refine ev_ild3 k186_12 ?_
      refine ev_ild4 k186_13 ?_
      refine ev_cV5i k186_15 cs_231 (by first | assumption | rfl) (by omega) (Nat.le_of_ble_eq_true rfl) rfl rfl rfl ?_
      refine sm_gives1 (S := cells I 11) ok tt (fun K hK => ?_)
      refine ev_goto k186_18 ?_
      refine ev_ri k186_27 rfl ?_
      exact ⟨rfl, Inv_sc (Inv_rp 27 (by omega) inv) hK⟩
/-- CV.says -/
theorem op_says {X : Nat × (Nat → Int32)} {d : Nat} {I : mm_I} {P : Int32 → mm_I → Prop} {a : Int32} {b : Int32} (inv : Inv I) (hQ : ∀ v J, mm_Ev mm_T0 X (d + 60) 188 0 (mm_ent 188 [.ref 91, .int a, .int b]) [] J (mm_pi fun w K => w = v ∧ Inv K) → P v J) : mm_Ev mm_T0 X (d + 60) 89 0 (mm_ent 89 [.ref 0, .int a, .int b]) [] I (mm_pi P) := by
  show mm_Ev mm_T0 X (d + 60) 89 0 [.ref 0, .int a, .int b] [] I (mm_pi P)
  obtain ⟨nc, np, hs⟩ := inv.1
  obtain ⟨c1, n6, p1, p6, rc, rp, rm, ok, sr, tt⟩ := hsF hs
  have t0 := tCV
  have tm := tM
  have tr := tR
  refine ev_ald0 k89_0 ?_
  refine ev_ild1 k89_1 ?_
  refine ev_cV2i k89_2 cs_176 (by first | assumption | rfl) (by omega) (Nat.le_of_ble_eq_true rfl) rfl rfl rfl ?_
  refine sp_cChair c1 ?_
  refine ev_ifz_eq k89_5 (fun h5 => ?_) (fun h5 => ?_)
  ·
    refine ev_ald0 k89_15 ?_
    refine ev_ldc k89_16 ?_
    refine ev_cV2i k89_18 cs_174 (by first | assumption | rfl) (by omega) (Nat.le_of_ble_eq_true rfl) rfl rfl rfl ?_
    refine sp_error (k := 1) (by decide) (by decide) (by decide) ?_
    refine ev_ri k89_21 rfl ?_
    refine hQ _ _ ?_
    show mm_Ev mm_T0 X (d + 60) 188 0 [.ref 91, .int _, .int _] [] _ (mm_pi _)
    refine ev_ald0 k188_0 ?_
    refine ev_ild1 k188_1 ?_
    refine ev_cV2i k188_2 cs_239 (by first | assumption | rfl) (by omega) (Nat.le_of_ble_eq_true rfl) rfl rfl rfl ?_
    refine sm_cChair (show _ = nI nc from rc) ?_
    refine ev_ifz_eq k188_5 (fun g5 => ?_) (fun g5 => Bool.noConfusion (Eq.trans (Eq.symm h5) g5))
    refine ev_ald0 k188_30 ?_
    refine ev_ldc k188_31 ?_
    refine ev_cV2i k188_33 cs_238 (by first | assumption | rfl) (by omega) (Nat.le_of_ble_eq_true rfl) rfl rfl rfl ?_
    refine sm_error (k := 1) (by decide) (by decide) ?_
    refine ev_ri k188_36 rfl ?_
    first | exact ⟨rfl, Inv_e rfl rfl inv⟩ | exact ⟨rfl, inv⟩
  ·
    obtain ⟨c, hc, rfl⟩ := wB_in (n := nc) (by omega) h5
    refine ev_ild2 k89_8 ?_
    refine ev_cS1i k89_9 cs_181 rfl rfl rfl ?_
    refine sp_isBill ?_
    refine ev_ifz_ne k89_12 (fun h12 => ?_) (fun h12 => ?_)
    ·
      refine ev_ald0 k89_22 ?_
      refine ev_getr k89_23 (by first | assumption | rfl) rfl rfl rfl ?_
      refine ev_ild1 k89_26 ?_
      refine ev_ild2 k89_27 ?_
      refine ev_ald0 k89_28 ?_
      refine ev_getr k89_29 (by first | assumption | rfl) rfl rfl rfl ?_
      refine ev_cV1i k89_32 cs_194 (by first | assumption | rfl) (by omega) (Nat.le_of_ble_eq_true rfl) rfl rfl rfl ?_
      refine sp_taken hh11 p1 p6 ?_
      refine ev_cV4i k89_35 cs_196 (by first | assumption | rfl) (by omega) (Nat.le_of_ble_eq_true rfl) rfl rfl rfl ?_
      refine sp_opinionOf hh11 c1 n6 ok.2.2.1 hc ?_
      refine ev_iconst k89_38 ?_
      refine ev_iadd k89_39 ?_
      refine ev_ri k89_40 rfl ?_
      refine hQ _ _ ?_
      show mm_Ev mm_T0 X (d + 60) 188 0 [.ref 91, .int _, .int _] [] _ (mm_pi _)
      refine ev_ald0 k188_0 ?_
      refine ev_ild1 k188_1 ?_
      refine ev_cV2i k188_2 cs_239 (by first | assumption | rfl) (by omega) (Nat.le_of_ble_eq_true rfl) rfl rfl rfl ?_
      refine sm_cChair (show _ = nI nc from rc) ?_
      refine ev_ifz_eq k188_5 (fun g5 => Bool.noConfusion (Eq.trans (Eq.symm h5) g5)) (fun g5 => ?_)
      refine ev_ild2 k188_8 ?_
      refine ev_cS1i k188_9 cs_243 rfl rfl rfl ?_
      refine sm_isBill ?_
      refine ev_ifz_eq k188_12 (fun g12 => Bool.noConfusion (Eq.trans (Eq.symm h12) g12)) (fun g12 => ?_)
      refine ev_iconst k188_15 ?_
      refine ev_ald0 k188_16 ?_
      refine ev_ild1 k188_17 ?_
      refine ev_ild2 k188_18 ?_
      refine ev_ald0 k188_19 ?_
      refine ev_cV1i k188_20 cs_235 (by first | assumption | rfl) (by omega) (Nat.le_of_ble_eq_true rfl) rfl rfl rfl ?_
      refine sm_taken rm sr ?_
      refine ev_cV4i k188_23 cs_232 (by first | assumption | rfl) (by omega) (Nat.le_of_ble_eq_true rfl) rfl rfl rfl ?_
      refine sm_saysOf (S := cells I 11) rm ok sr hc ?_
      refine ev_iadd k188_26 ?_
      refine ev_goto k188_27 ?_
      refine ev_ri k188_36 rfl ?_
      exact ⟨Int32.add_comm _ _, inv⟩
    ·
      refine ev_ald0 k89_15 ?_
      refine ev_ldc k89_16 ?_
      refine ev_cV2i k89_18 cs_174 (by first | assumption | rfl) (by omega) (Nat.le_of_ble_eq_true rfl) rfl rfl rfl ?_
      refine sp_error (k := 1) (by decide) (by decide) (by decide) ?_
      refine ev_ri k89_21 rfl ?_
      refine hQ _ _ ?_
      show mm_Ev mm_T0 X (d + 60) 188 0 [.ref 91, .int _, .int _] [] _ (mm_pi _)
      refine ev_ald0 k188_0 ?_
      refine ev_ild1 k188_1 ?_
      refine ev_cV2i k188_2 cs_239 (by first | assumption | rfl) (by omega) (Nat.le_of_ble_eq_true rfl) rfl rfl rfl ?_
      refine sm_cChair (show _ = nI nc from rc) ?_
      refine ev_ifz_eq k188_5 (fun g5 => Bool.noConfusion (Eq.trans (Eq.symm h5) g5)) (fun g5 => ?_)
      refine ev_ild2 k188_8 ?_
      refine ev_cS1i k188_9 cs_243 rfl rfl rfl ?_
      refine sm_isBill ?_
      refine ev_ifz_eq k188_12 (fun g12 => ?_) (fun g12 => Bool.noConfusion (Eq.trans (Eq.symm h12) g12))
      refine ev_ald0 k188_30 ?_
      refine ev_ldc k188_31 ?_
      refine ev_cV2i k188_33 cs_238 (by first | assumption | rfl) (by omega) (Nat.le_of_ble_eq_true rfl) rfl rfl rfl ?_
      refine sm_error (k := 1) (by decide) (by decide) ?_
      refine ev_ri k188_36 rfl ?_
      first | exact ⟨rfl, Inv_e rfl rfl inv⟩ | exact ⟨rfl, inv⟩
/-- CV.vote -/
theorem op_vote {X : Nat × (Nat → Int32)} {d : Nat} {I : mm_I} {P : Int32 → mm_I → Prop} {a : Int32} {b : Int32} (inv : Inv I) (hQ : ∀ v J, mm_Ev mm_T0 X (d + 60) 187 0 (mm_ent 187 [.ref 91, .int a, .int b]) [] J (mm_pi fun w K => w = v ∧ Inv K) → P v J) : mm_Ev mm_T0 X (d + 60) 88 0 (mm_ent 88 [.ref 0, .int a, .int b]) [] I (mm_pi P) := by
  show mm_Ev mm_T0 X (d + 60) 88 0 [.ref 0, .int a, .int b] [] I (mm_pi P)
  obtain ⟨nc, np, hs⟩ := inv.1
  obtain ⟨c1, n6, p1, p6, rc, rp, rm, ok, sr, tt⟩ := hsF hs
  have t0 := tCV
  have tm := tM
  have tr := tR
  refine ev_ild1 k88_0 ?_
  refine ev_cS1i k88_1 cs_181 rfl rfl rfl ?_
  refine sp_isBill ?_
  refine ev_ifz_ne k88_4 (fun h4 => ?_) (fun h4 => ?_)
  ·
    refine ev_ald0 k88_14 ?_
    refine ev_getr k88_15 (by first | assumption | rfl) rfl rfl rfl ?_
    refine ev_cV1v k88_18 cs_192 (by first | assumption | rfl) (by omega) (Nat.le_of_ble_eq_true rfl) rfl rfl rfl ?_
    refine sp_weighAll hh11 ok (fun g => ?_)
    have inv2 : Inv (hWI I 11 nc g) := Inv_W inv
    have ok2 : ∀ c, c < nc → hWI I 11 nc g (11 + 1) c = nI (hK (hWI I 11 nc g) 11 c) ∧ hK (hWI I 11 nc g) 11 c < 7 := ok.2.2.1
    refine ev_ild2 k88_21 ?_
    refine ev_tb (l := [(0, 26), (1, 36), (2, 46)]) k88_22 rfl rfl ?_
    refine sw_cons (key := 0) (t := 48) rfl rfl (fun h22 => ?_) (fun h22_0 => ?_)
    ·
      subst h22
      refine ev_ald0 k88_48 ?_
      refine ev_getr k88_49 (by first | assumption | rfl) rfl rfl rfl ?_
      refine ev_iconst k88_52 ?_
      refine ev_ild1 k88_53 ?_
      refine ev_cV3i k88_54 cs_193 (by first | assumption | rfl) (by omega) (Nat.le_of_ble_eq_true rfl) rfl rfl rfl ?_
      refine sp_weightSaying (I := hWI I 11 nc g) hh11 (nc := nc) (np := np) c1 n6 ok2 p1 p6 ?_
      rw [show hTk (hWI I 11 nc g) 11 np = hTk (cells I 11) 0 np from rfl, wsW (by decide)]
      refine ev_ri k88_57 rfl ?_
      refine hQ _ _ ?_
      show mm_Ev mm_T0 X (d + 60) 187 0 [.ref 91, .int _, .int _] [] _ (mm_pi _)
      refine ev_ild1 k187_0 ?_
      refine ev_cS1i k187_1 cs_243 rfl rfl rfl ?_
      refine sm_isBill ?_
      refine ev_ifz_eq k187_4 (fun g4 => Bool.noConfusion (Eq.trans (Eq.symm h4) g4)) (fun g4 => ?_)
      refine ev_ild2 k187_7 ?_
      refine ev_iconst k187_8 ?_
      refine ev_iconst k187_9 ?_
      refine ev_cS3i k187_10 cs_224 rfl rfl rfl ?_
      refine sp_in ?_
      refine ev_ifz_ne k187_13 (fun g13 => ?_) (fun g13 => Bool.noConfusion (Eq.trans (Eq.symm (show wB 0 2 _ = true from by decide)) g13))
      refine ev_ild2 k187_23 ?_
      refine ev_iconst k187_24 ?_
      refine ev_icmp_ne k187_25 (fun g25 => ?_) (fun g25 => absurd g25 (by decide))
      refine ev_ald0 k187_44 ?_
      refine ev_ild1 k187_45 ?_
      refine ev_ald0 k187_46 ?_
      refine ev_cV1i k187_47 cs_235 (by first | assumption | rfl) (by omega) (Nat.le_of_ble_eq_true rfl) rfl rfl rfl ?_
      refine sm_taken (S := cells I 11) rm sr ?_
      refine ev_iconst k187_50 ?_
      refine ev_iconst k187_51 ?_
      refine ev_ild2 k187_52 ?_
      refine ev_imul k187_53 ?_
      refine ev_isub k187_54 ?_
      refine ev_cV4i k187_55 cs_234 (by first | assumption | rfl) (by omega) (Nat.le_of_ble_eq_true rfl) rfl rfl rfl ?_
      rw [show (1 : Int32) - 2 * 0 = 1 from by decide]
      refine sm_weighing (S := cells I 11) rm ok sr tt (fun K hK => ?_)
      refine ev_ri k187_58 rfl ?_
      exact ⟨rfl, Inv_sc inv2 hK⟩
    refine sw_cons (key := 1) (t := 58) rfl rfl (fun h22 => ?_) (fun h22_1 => ?_)
    ·
      subst h22
      refine ev_ald0 k88_58 ?_
      refine ev_getr k88_59 (by first | assumption | rfl) rfl rfl rfl ?_
      refine ev_iconst k88_62 ?_
      refine ev_ild1 k88_63 ?_
      refine ev_cV3i k88_64 cs_193 (by first | assumption | rfl) (by omega) (Nat.le_of_ble_eq_true rfl) rfl rfl rfl ?_
      refine sp_weightSaying (I := hWI I 11 nc g) hh11 (nc := nc) (np := np) c1 n6 ok2 p1 p6 ?_
      rw [show hTk (hWI I 11 nc g) 11 np = hTk (cells I 11) 0 np from rfl, wsW (by decide)]
      refine ev_ri k88_67 rfl ?_
      refine hQ _ _ ?_
      show mm_Ev mm_T0 X (d + 60) 187 0 [.ref 91, .int _, .int _] [] _ (mm_pi _)
      refine ev_ild1 k187_0 ?_
      refine ev_cS1i k187_1 cs_243 rfl rfl rfl ?_
      refine sm_isBill ?_
      refine ev_ifz_eq k187_4 (fun g4 => Bool.noConfusion (Eq.trans (Eq.symm h4) g4)) (fun g4 => ?_)
      refine ev_ild2 k187_7 ?_
      refine ev_iconst k187_8 ?_
      refine ev_iconst k187_9 ?_
      refine ev_cS3i k187_10 cs_224 rfl rfl rfl ?_
      refine sp_in ?_
      refine ev_ifz_ne k187_13 (fun g13 => ?_) (fun g13 => Bool.noConfusion (Eq.trans (Eq.symm (show wB 0 2 _ = true from by decide)) g13))
      refine ev_ild2 k187_23 ?_
      refine ev_iconst k187_24 ?_
      refine ev_icmp_ne k187_25 (fun g25 => ?_) (fun g25 => absurd g25 (by decide))
      refine ev_ald0 k187_44 ?_
      refine ev_ild1 k187_45 ?_
      refine ev_ald0 k187_46 ?_
      refine ev_cV1i k187_47 cs_235 (by first | assumption | rfl) (by omega) (Nat.le_of_ble_eq_true rfl) rfl rfl rfl ?_
      refine sm_taken (S := cells I 11) rm sr ?_
      refine ev_iconst k187_50 ?_
      refine ev_iconst k187_51 ?_
      refine ev_ild2 k187_52 ?_
      refine ev_imul k187_53 ?_
      refine ev_isub k187_54 ?_
      refine ev_cV4i k187_55 cs_234 (by first | assumption | rfl) (by omega) (Nat.le_of_ble_eq_true rfl) rfl rfl rfl ?_
      rw [show (1 : Int32) - 2 * 1 = -1 from by decide]
      refine sm_weighing (S := cells I 11) rm ok sr tt (fun K hK => ?_)
      refine ev_ri k187_58 rfl ?_
      exact ⟨rfl, Inv_sc inv2 hK⟩
    refine sw_cons (key := 2) (t := 68) rfl rfl (fun h22 => ?_) (fun h22_2 => ?_)
    ·
      subst h22
      refine ev_ald0 k88_68 ?_
      refine ev_getr k88_69 (by first | assumption | rfl) rfl rfl rfl ?_
      refine ev_ild1 k88_72 ?_
      refine ev_ald0 k88_73 ?_
      refine ev_getr k88_74 (by first | assumption | rfl) rfl rfl rfl ?_
      refine ev_cV1i k88_77 cs_194 (by first | assumption | rfl) (by omega) (Nat.le_of_ble_eq_true rfl) rfl rfl rfl ?_
      refine sp_taken (I := hWI I 11 nc g) hh11 (np := np) p1 p6 ?_
      refine ev_cV3i k88_80 cs_195 (by first | assumption | rfl) (by omega) (Nat.le_of_ble_eq_true rfl) rfl rfl rfl ?_
      refine sp_margin (I := hWI I 11 nc g) hh11 (nc := nc) c1 n6 ok2 ?_
      rw [mgW, show hTk (hWI I 11 nc g) 11 np = hTk (cells I 11) 0 np from rfl]
      refine ev_jf_le k88_83 (fun h83 => ?_) (fun h83 => ?_)
      ·
        refine ev_iconst k88_90 ?_
        refine ev_ri k88_91 rfl ?_
        refine hQ _ _ ?_
        show mm_Ev mm_T0 X (d + 60) 187 0 [.ref 91, .int _, .int _] [] _ (mm_pi _)
        refine ev_ild1 k187_0 ?_
        refine ev_cS1i k187_1 cs_243 rfl rfl rfl ?_
        refine sm_isBill ?_
        refine ev_ifz_eq k187_4 (fun g4 => Bool.noConfusion (Eq.trans (Eq.symm h4) g4)) (fun g4 => ?_)
        refine ev_ild2 k187_7 ?_
        refine ev_iconst k187_8 ?_
        refine ev_iconst k187_9 ?_
        refine ev_cS3i k187_10 cs_224 rfl rfl rfl ?_
        refine sp_in ?_
        refine ev_ifz_ne k187_13 (fun g13 => ?_) (fun g13 => Bool.noConfusion (Eq.trans (Eq.symm (show wB 0 2 _ = true from by decide)) g13))
        refine ev_ild2 k187_23 ?_
        refine ev_iconst k187_24 ?_
        refine ev_icmp_ne k187_25 (fun g25 => absurd rfl g25) (fun g25 => ?_)
        refine ev_ald0 k187_28 ?_
        refine ev_ild1 k187_29 ?_
        refine ev_cV2i k187_30 cs_260 (by first | assumption | rfl) (by omega) (Nat.le_of_ble_eq_true rfl) rfl rfl rfl ?_
        refine sm_doesPass (S := cells I 11) rm ok sr tt (fun K hK => ?_)
        refine ev_ifz_eq k187_33 (fun g33 => ?_) (fun g33 => absurd (of_decide_eq_true g33) h83)
        refine ev_iconst k187_40 ?_
        refine ev_goto k187_41 ?_
        refine ev_ri k187_58 rfl ?_
        exact ⟨rfl, Inv_sc inv2 hK⟩
      ·
        refine ev_iconst k88_86 ?_
        refine ev_goto k88_87 ?_
        refine ev_ri k88_91 rfl ?_
        refine hQ _ _ ?_
        show mm_Ev mm_T0 X (d + 60) 187 0 [.ref 91, .int _, .int _] [] _ (mm_pi _)
        refine ev_ild1 k187_0 ?_
        refine ev_cS1i k187_1 cs_243 rfl rfl rfl ?_
        refine sm_isBill ?_
        refine ev_ifz_eq k187_4 (fun g4 => Bool.noConfusion (Eq.trans (Eq.symm h4) g4)) (fun g4 => ?_)
        refine ev_ild2 k187_7 ?_
        refine ev_iconst k187_8 ?_
        refine ev_iconst k187_9 ?_
        refine ev_cS3i k187_10 cs_224 rfl rfl rfl ?_
        refine sp_in ?_
        refine ev_ifz_ne k187_13 (fun g13 => ?_) (fun g13 => Bool.noConfusion (Eq.trans (Eq.symm (show wB 0 2 _ = true from by decide)) g13))
        refine ev_ild2 k187_23 ?_
        refine ev_iconst k187_24 ?_
        refine ev_icmp_ne k187_25 (fun g25 => absurd rfl g25) (fun g25 => ?_)
        refine ev_ald0 k187_28 ?_
        refine ev_ild1 k187_29 ?_
        refine ev_cV2i k187_30 cs_260 (by first | assumption | rfl) (by omega) (Nat.le_of_ble_eq_true rfl) rfl rfl rfl ?_
        refine sm_doesPass (S := cells I 11) rm ok sr tt (fun K hK => ?_)
        refine ev_ifz_eq k187_33 (fun g33 => absurd h83 (of_decide_eq_false g33)) (fun g33 => ?_)
        refine ev_iconst k187_36 ?_
        refine ev_goto k187_37 ?_
        refine ev_ri k187_58 rfl ?_
        exact ⟨rfl, Inv_sc inv2 hK⟩
    refine sw_nil (t := 92) rfl ?_
    refine ev_ald0 k88_92 ?_
    refine ev_ldc k88_93 ?_
    refine ev_cV2i k88_95 cs_174 (by first | assumption | rfl) (by omega) (Nat.le_of_ble_eq_true rfl) rfl rfl rfl ?_
    refine sp_error (k := 1) (by decide) (by decide) (by decide) ?_
    refine ev_ri k88_98 rfl ?_
    refine hQ _ _ ?_
    show mm_Ev mm_T0 X (d + 60) 187 0 [.ref 91, .int _, .int _] [] _ (mm_pi _)
    refine ev_ild1 k187_0 ?_
    refine ev_cS1i k187_1 cs_243 rfl rfl rfl ?_
    refine sm_isBill ?_
    refine ev_ifz_eq k187_4 (fun g4 => Bool.noConfusion (Eq.trans (Eq.symm h4) g4)) (fun g4 => ?_)
    refine ev_ild2 k187_7 ?_
    refine ev_iconst k187_8 ?_
    refine ev_iconst k187_9 ?_
    refine ev_cS3i k187_10 cs_224 rfl rfl rfl ?_
    refine sp_in ?_
    refine ev_ifz_ne k187_13 (fun g13 => Bool.noConfusion (Eq.trans (Eq.symm (sw_2 h22_0 h22_1 h22_2)) g13)) (fun g13 => ?_)
    refine ev_ald0 k187_16 ?_
    refine ev_ldc k187_17 ?_
    refine ev_cV2i k187_19 cs_238 (by first | assumption | rfl) (by omega) (Nat.le_of_ble_eq_true rfl) rfl rfl rfl ?_
    refine sm_error (k := 1) (by decide) (by decide) ?_
    refine ev_ri k187_22 rfl ?_
    exact ⟨rfl, Inv_e rfl rfl inv2⟩
  ·
    refine ev_ald0 k88_7 ?_
    refine ev_ldc k88_8 ?_
    refine ev_cV2i k88_10 cs_174 (by first | assumption | rfl) (by omega) (Nat.le_of_ble_eq_true rfl) rfl rfl rfl ?_
    refine sp_error (k := 1) (by decide) (by decide) (by decide) ?_
    refine ev_ri k88_13 rfl ?_
    refine hQ _ _ ?_
    show mm_Ev mm_T0 X (d + 60) 187 0 [.ref 91, .int _, .int _] [] _ (mm_pi _)
    refine ev_ild1 k187_0 ?_
    refine ev_cS1i k187_1 cs_243 rfl rfl rfl ?_
    refine sm_isBill ?_
    refine ev_ifz_eq k187_4 (fun g4 => ?_) (fun g4 => Bool.noConfusion (Eq.trans (Eq.symm h4) g4))
    refine ev_ald0 k187_16 ?_
    refine ev_ldc k187_17 ?_
    refine ev_cV2i k187_19 cs_238 (by first | assumption | rfl) (by omega) (Nat.le_of_ble_eq_true rfl) rfl rfl rfl ?_
    refine sm_error (k := 1) (by decide) (by decide) ?_
    refine ev_ri k187_22 rfl ?_
    first | exact ⟨rfl, Inv_e rfl rfl inv⟩ | exact ⟨rfl, inv⟩
/-- CV.run -/
theorem op_run {X : Nat × (Nat → Int32)} {d : Nat} {I : mm_I} {P : Int32 → mm_I → Prop}  (inv : Inv I) (hQ : ∀ v J, mm_Ev mm_T0 X (d + 60) 193 0 (mm_ent 193 [.ref 91]) [] J (mm_pi fun w K => w = v ∧ Inv K) → P v J) : mm_Ev mm_T0 X (d + 60) 90 0 (mm_ent 90 [.ref 0]) [] I (mm_pi P) := by
  show mm_Ev mm_T0 X (d + 60) 90 0 [.ref 0] [] I (mm_pi P)
  obtain ⟨nc, np, hs⟩ := inv.1
  obtain ⟨c1, n6, p1, p6, rc, rp, rm, ok, sr, tt⟩ := hsF hs
  have t0 := tCV
  have tm := tM
  have tr := tR
  refine ev_ald0 k90_0 ?_
  refine ev_getr k90_1 (by first | assumption | rfl) rfl rfl rfl ?_
  refine ev_cV1v k90_4 cs_197 (by first | assumption | rfl) (by omega) (Nat.le_of_ble_eq_true rfl) rfl rfl rfl ?_
  refine sp_runC hh11 rfl (wf_nz (HS_wf hs)) (fun K1 eK fK => ?_)
  have hsN := HS_nz hs
  have wfK := wf_rN (wf_nz (HS_wf hs))
  have wfK1 := wfK
  rw [← eK] at wfK1
  refine ev_ald0 k90_7 ?_
  refine ev_getr k90_8 (by first | assumption | rfl) rfl rfl rfl ?_
  refine ev_cV1i k90_11 cs_194 (by first | assumption | rfl) (by omega) (Nat.le_of_ble_eq_true rfl) rfl rfl rfl ?_
  refine sp_taken hh11 (np := np) wfK1.1 wfK1.2.1 ?_
  refine ev_cS1i k90_14 cs_198 rfl rfl rfl ?_
  refine sp_bitCount ?_
  refine ev_ri k90_17 rfl ?_
  refine hQ _ _ ?_
  show mm_Ev mm_T0 X (d + 60) 193 0 [.ref 91] [] _ (mm_pi _)
  refine ev_ald0 k193_0 ?_
  refine ev_cV1v k193_1 cs_264 (by first | assumption | rfl) (by omega) (Nat.le_of_ble_eq_true rfl) rfl rfl rfl ?_
  refine sm_runM (J := K1) (by rw [fK 92 (by omega)]; exact hsN) (fun K2 HK gK => ?_)
  obtain ⟨s, s1, s2, -⟩ := hTk_set HK.2.1.2.1 (wf_at HK.2.2.1)
  refine ev_ald0 k193_4 ?_
  refine ev_cV1i k193_5 cs_235 (by first | assumption | rfl) (by omega) (Nat.le_of_ble_eq_true rfl) rfl rfl rfl ?_
  refine sm_taken HK.1 HK.2.2.1 ?_
  refine ev_cS1i k193_8 cs_228 rfl rfl rfl ?_
  refine sm_bits (k := s) s2 (by omega) ?_
  refine ev_ri k193_11 rfl ?_
  have e8 : hTk K1 11 np = hTk (rN (nz (cells I 11)) nc np) 0 np := by rw [← eK]; rfl
  rw [e8]
  refine ⟨rfl, Inv_H inv (fun k hk => (gK k (by omega) (by omega) (by omega)).trans (fK k (by omega))) (HS_zn (nc := nc) (np := np) ?_)⟩
  rw [show nz (cells K2 11) = nz (cells K1 11) from nz_eq (fun k a _ _ _ => gK _ (by omega) (by omega) (by omega)), eK]
  exact HK
/-- CV.count -/
theorem op_count {X : Nat × (Nat → Int32)} {d : Nat} {I : mm_I} {P : Int32 → mm_I → Prop} {a : Int32} (inv : Inv I) (hQ : ∀ v J, mm_Ev mm_T0 X (d + 60) 241 0 (mm_ent 241 [.ref 91, .int a]) [] J (mm_pi fun w K => w = v ∧ Inv K) → P v J) : mm_Ev mm_T0 X (d + 60) 114 0 (mm_ent 114 [.ref 0, .int a]) [] I (mm_pi P) := by
  show mm_Ev mm_T0 X (d + 60) 114 0 [.ref 0, .int a] [] I (mm_pi P)
  obtain ⟨nc, np, hs⟩ := inv.1
  obtain ⟨c1, n6, p1, p6, rc, rp, rm, ok, sr, tt⟩ := hsF hs
  have t0 := tCV
  have tm := tM
  have tr := tR
  refine ev_ild1 k114_0 ?_
  refine ev_tb (l := [(0, 55), (1, 63), (2, 71), (3, 79), (4, 87), (5, 98), (6, 120), (7, 131), (8, 142), (9, 150)]) k114_1 rfl rfl ?_
  refine sw_cons (key := 0) (t := 56) rfl rfl (fun h1 => ?_) (fun h1_0 => ?_)
  ·
    subst h1
    refine ev_ald0 k114_56 ?_
    refine ev_getr k114_57 (by first | assumption | rfl) rfl rfl rfl ?_
    refine ev_gfv (j := 1) k114_60 (by first | assumption | rfl) rfl rfl rfl rfl c1 ?_
    refine ev_ri k114_63 rfl ?_
    refine hQ _ _ ?_
    show mm_Ev mm_T0 X (d + 60) 241 0 [.ref 91, .int _] [] _ (mm_pi _)
    refine ev_ild1 k241_0 ?_
    refine ev_tb (l := [(0, 55), (1, 62), (2, 69), (3, 76), (4, 83), (5, 91), (6, 100), (7, 107), (8, 115), (9, 120)]) k241_1 rfl rfl ?_
    refine sw_cons (key := 0) (t := 56) rfl rfl (fun g1 => ?_) (fun g1_0 => ?_)
    ·
      refine ev_ald0 k241_56 ?_
      refine ev_getr k241_57 (by first | assumption | rfl) rfl rfl rfl ?_
      refine ev_iconst k241_60 ?_
      refine ev_ialv (j := 2) k241_61 (by first | assumption | rfl) (by omega) rfl (vp_dec rfl) rc ?_
      refine ev_ri k241_62 rfl ?_
      first | exact ⟨rfl, Inv_e rfl rfl inv⟩ | exact ⟨rfl, inv⟩
    refine sw_cons (key := 1) (t := 63) rfl rfl (fun g1 => absurd g1 (by decide)) (fun g1_1 => ?_)
    refine sw_cons (key := 2) (t := 70) rfl rfl (fun g1 => absurd g1 (by decide)) (fun g1_2 => ?_)
    refine sw_cons (key := 3) (t := 77) rfl rfl (fun g1 => absurd g1 (by decide)) (fun g1_3 => ?_)
    refine sw_cons (key := 4) (t := 84) rfl rfl (fun g1 => absurd g1 (by decide)) (fun g1_4 => ?_)
    refine sw_cons (key := 5) (t := 92) rfl rfl (fun g1 => absurd g1 (by decide)) (fun g1_5 => ?_)
    refine sw_cons (key := 6) (t := 101) rfl rfl (fun g1 => absurd g1 (by decide)) (fun g1_6 => ?_)
    refine sw_cons (key := 7) (t := 108) rfl rfl (fun g1 => absurd g1 (by decide)) (fun g1_7 => ?_)
    refine sw_cons (key := 8) (t := 116) rfl rfl (fun g1 => absurd g1 (by decide)) (fun g1_8 => ?_)
    refine sw_cons (key := 9) (t := 121) rfl rfl (fun g1 => absurd g1 (by decide)) (fun g1_9 => ?_)
    exact absurd rfl g1_0
  refine sw_cons (key := 1) (t := 64) rfl rfl (fun h1 => ?_) (fun h1_1 => ?_)
  ·
    subst h1
    refine ev_ald0 k114_64 ?_
    refine ev_getr k114_65 (by first | assumption | rfl) rfl rfl rfl ?_
    refine ev_gfv (j := 7) k114_68 (by first | assumption | rfl) rfl rfl rfl rfl p1 ?_
    refine ev_ri k114_71 rfl ?_
    refine hQ _ _ ?_
    show mm_Ev mm_T0 X (d + 60) 241 0 [.ref 91, .int _] [] _ (mm_pi _)
    refine ev_ild1 k241_0 ?_
    refine ev_tb (l := [(0, 55), (1, 62), (2, 69), (3, 76), (4, 83), (5, 91), (6, 100), (7, 107), (8, 115), (9, 120)]) k241_1 rfl rfl ?_
    refine sw_cons (key := 0) (t := 56) rfl rfl (fun g1 => absurd g1 (by decide)) (fun g1_0 => ?_)
    refine sw_cons (key := 1) (t := 63) rfl rfl (fun g1 => ?_) (fun g1_1 => ?_)
    ·
      refine ev_ald0 k241_63 ?_
      refine ev_getr k241_64 (by first | assumption | rfl) rfl rfl rfl ?_
      refine ev_iconst k241_67 ?_
      refine ev_ialv (j := 3) k241_68 (by first | assumption | rfl) (by omega) rfl (vp_dec rfl) rp ?_
      refine ev_ri k241_69 rfl ?_
      first | exact ⟨rfl, Inv_e rfl rfl inv⟩ | exact ⟨rfl, inv⟩
    refine sw_cons (key := 2) (t := 70) rfl rfl (fun g1 => absurd g1 (by decide)) (fun g1_2 => ?_)
    refine sw_cons (key := 3) (t := 77) rfl rfl (fun g1 => absurd g1 (by decide)) (fun g1_3 => ?_)
    refine sw_cons (key := 4) (t := 84) rfl rfl (fun g1 => absurd g1 (by decide)) (fun g1_4 => ?_)
    refine sw_cons (key := 5) (t := 92) rfl rfl (fun g1 => absurd g1 (by decide)) (fun g1_5 => ?_)
    refine sw_cons (key := 6) (t := 101) rfl rfl (fun g1 => absurd g1 (by decide)) (fun g1_6 => ?_)
    refine sw_cons (key := 7) (t := 108) rfl rfl (fun g1 => absurd g1 (by decide)) (fun g1_7 => ?_)
    refine sw_cons (key := 8) (t := 116) rfl rfl (fun g1 => absurd g1 (by decide)) (fun g1_8 => ?_)
    refine sw_cons (key := 9) (t := 121) rfl rfl (fun g1 => absurd g1 (by decide)) (fun g1_9 => ?_)
    exact absurd rfl g1_1
  refine sw_cons (key := 2) (t := 72) rfl rfl (fun h1 => ?_) (fun h1_2 => ?_)
  ·
    subst h1
    refine ev_ald0 k114_72 ?_
    refine ev_getr k114_73 (by first | assumption | rfl) rfl rfl rfl ?_
    refine ev_gfv (j := 16) k114_76 (by first | assumption | rfl) rfl rfl rfl rfl (rm.2.2.2.1).symm ?_
    refine ev_ri k114_79 rfl ?_
    refine hQ _ _ ?_
    show mm_Ev mm_T0 X (d + 60) 241 0 [.ref 91, .int _] [] _ (mm_pi _)
    refine ev_ild1 k241_0 ?_
    refine ev_tb (l := [(0, 55), (1, 62), (2, 69), (3, 76), (4, 83), (5, 91), (6, 100), (7, 107), (8, 115), (9, 120)]) k241_1 rfl rfl ?_
    refine sw_cons (key := 0) (t := 56) rfl rfl (fun g1 => absurd g1 (by decide)) (fun g1_0 => ?_)
    refine sw_cons (key := 1) (t := 63) rfl rfl (fun g1 => absurd g1 (by decide)) (fun g1_1 => ?_)
    refine sw_cons (key := 2) (t := 70) rfl rfl (fun g1 => ?_) (fun g1_2 => ?_)
    ·
      refine ev_ald0 k241_70 ?_
      refine ev_getr k241_71 (by first | assumption | rfl) rfl rfl rfl ?_
      refine ev_iconst k241_74 ?_
      refine ev_ial (j := 0) k241_75 (by first | assumption | rfl) (by omega) rfl (vp_dec rfl) ?_
      refine ev_ri k241_76 rfl ?_
      first | exact ⟨rfl, Inv_e rfl rfl inv⟩ | exact ⟨rfl, inv⟩
    refine sw_cons (key := 3) (t := 77) rfl rfl (fun g1 => absurd g1 (by decide)) (fun g1_3 => ?_)
    refine sw_cons (key := 4) (t := 84) rfl rfl (fun g1 => absurd g1 (by decide)) (fun g1_4 => ?_)
    refine sw_cons (key := 5) (t := 92) rfl rfl (fun g1 => absurd g1 (by decide)) (fun g1_5 => ?_)
    refine sw_cons (key := 6) (t := 101) rfl rfl (fun g1 => absurd g1 (by decide)) (fun g1_6 => ?_)
    refine sw_cons (key := 7) (t := 108) rfl rfl (fun g1 => absurd g1 (by decide)) (fun g1_7 => ?_)
    refine sw_cons (key := 8) (t := 116) rfl rfl (fun g1 => absurd g1 (by decide)) (fun g1_8 => ?_)
    refine sw_cons (key := 9) (t := 121) rfl rfl (fun g1 => absurd g1 (by decide)) (fun g1_9 => ?_)
    exact absurd rfl g1_2
  refine sw_cons (key := 3) (t := 80) rfl rfl (fun h1 => ?_) (fun h1_3 => ?_)
  ·
    subst h1
    refine ev_ald0 k114_80 ?_
    refine ev_getr k114_81 (by first | assumption | rfl) rfl rfl rfl ?_
    refine ev_gfv (j := 15) k114_84 (by first | assumption | rfl) rfl rfl rfl rfl (rm.2.2.2.2.2).symm ?_
    refine ev_ri k114_87 rfl ?_
    refine hQ _ _ ?_
    show mm_Ev mm_T0 X (d + 60) 241 0 [.ref 91, .int _] [] _ (mm_pi _)
    refine ev_ild1 k241_0 ?_
    refine ev_tb (l := [(0, 55), (1, 62), (2, 69), (3, 76), (4, 83), (5, 91), (6, 100), (7, 107), (8, 115), (9, 120)]) k241_1 rfl rfl ?_
    refine sw_cons (key := 0) (t := 56) rfl rfl (fun g1 => absurd g1 (by decide)) (fun g1_0 => ?_)
    refine sw_cons (key := 1) (t := 63) rfl rfl (fun g1 => absurd g1 (by decide)) (fun g1_1 => ?_)
    refine sw_cons (key := 2) (t := 70) rfl rfl (fun g1 => absurd g1 (by decide)) (fun g1_2 => ?_)
    refine sw_cons (key := 3) (t := 77) rfl rfl (fun g1 => ?_) (fun g1_3 => ?_)
    ·
      refine ev_ald0 k241_77 ?_
      refine ev_getr k241_78 (by first | assumption | rfl) rfl rfl rfl ?_
      refine ev_iconst k241_81 ?_
      refine ev_ial (j := 4) k241_82 (by first | assumption | rfl) (by omega) rfl (vp_dec rfl) ?_
      refine ev_ri k241_83 rfl ?_
      first | exact ⟨rfl, Inv_e rfl rfl inv⟩ | exact ⟨rfl, inv⟩
    refine sw_cons (key := 4) (t := 84) rfl rfl (fun g1 => absurd g1 (by decide)) (fun g1_4 => ?_)
    refine sw_cons (key := 5) (t := 92) rfl rfl (fun g1 => absurd g1 (by decide)) (fun g1_5 => ?_)
    refine sw_cons (key := 6) (t := 101) rfl rfl (fun g1 => absurd g1 (by decide)) (fun g1_6 => ?_)
    refine sw_cons (key := 7) (t := 108) rfl rfl (fun g1 => absurd g1 (by decide)) (fun g1_7 => ?_)
    refine sw_cons (key := 8) (t := 116) rfl rfl (fun g1 => absurd g1 (by decide)) (fun g1_8 => ?_)
    refine sw_cons (key := 9) (t := 121) rfl rfl (fun g1 => absurd g1 (by decide)) (fun g1_9 => ?_)
    exact absurd rfl g1_3
  refine sw_cons (key := 4) (t := 88) rfl rfl (fun h1 => ?_) (fun h1_4 => ?_)
  ·
    subst h1
    refine ev_ald0 k114_88 ?_
    refine ev_getr k114_89 (by first | assumption | rfl) rfl rfl rfl ?_
    refine ev_cV1i k114_92 cs_194 (by first | assumption | rfl) (by omega) (Nat.le_of_ble_eq_true rfl) rfl rfl rfl ?_
    refine sp_taken hh11 (np := np) p1 p6 ?_
    refine ev_cS1i k114_95 cs_198 rfl rfl rfl ?_
    refine sp_bitCount ?_
    refine ev_ri k114_98 rfl ?_
    refine hQ _ _ ?_
    show mm_Ev mm_T0 X (d + 60) 241 0 [.ref 91, .int _] [] _ (mm_pi _)
    refine ev_ild1 k241_0 ?_
    refine ev_tb (l := [(0, 55), (1, 62), (2, 69), (3, 76), (4, 83), (5, 91), (6, 100), (7, 107), (8, 115), (9, 120)]) k241_1 rfl rfl ?_
    refine sw_cons (key := 0) (t := 56) rfl rfl (fun g1 => absurd g1 (by decide)) (fun g1_0 => ?_)
    refine sw_cons (key := 1) (t := 63) rfl rfl (fun g1 => absurd g1 (by decide)) (fun g1_1 => ?_)
    refine sw_cons (key := 2) (t := 70) rfl rfl (fun g1 => absurd g1 (by decide)) (fun g1_2 => ?_)
    refine sw_cons (key := 3) (t := 77) rfl rfl (fun g1 => absurd g1 (by decide)) (fun g1_3 => ?_)
    refine sw_cons (key := 4) (t := 84) rfl rfl (fun g1 => ?_) (fun g1_4 => ?_)
    ·
      refine ev_ald0 k241_84 ?_
      refine ev_cV1i k241_85 cs_235 (by first | assumption | rfl) (by omega) (Nat.le_of_ble_eq_true rfl) rfl rfl rfl ?_
      refine sm_taken (S := cells I 11) rm sr ?_
      refine ev_cS1i k241_88 cs_228 rfl rfl rfl ?_
      obtain ⟨s, s1, s2⟩ := tk64 n6 sr
      refine sm_bits (k := s) s2 s1 ?_
      refine ev_ri k241_91 rfl ?_
      first | exact ⟨rfl, Inv_e rfl rfl inv⟩ | exact ⟨rfl, inv⟩
    refine sw_cons (key := 5) (t := 92) rfl rfl (fun g1 => absurd g1 (by decide)) (fun g1_5 => ?_)
    refine sw_cons (key := 6) (t := 101) rfl rfl (fun g1 => absurd g1 (by decide)) (fun g1_6 => ?_)
    refine sw_cons (key := 7) (t := 108) rfl rfl (fun g1 => absurd g1 (by decide)) (fun g1_7 => ?_)
    refine sw_cons (key := 8) (t := 116) rfl rfl (fun g1 => absurd g1 (by decide)) (fun g1_8 => ?_)
    refine sw_cons (key := 9) (t := 121) rfl rfl (fun g1 => absurd g1 (by decide)) (fun g1_9 => ?_)
    exact absurd rfl g1_4
  refine sw_cons (key := 5) (t := 99) rfl rfl (fun h1 => ?_) (fun h1_5 => ?_)
  ·
    subst h1
    refine ev_ald0 k114_99 ?_
    refine ev_getr k114_100 (by first | assumption | rfl) rfl rfl rfl ?_
    refine ev_cV1v k114_103 cs_192 (by first | assumption | rfl) (by omega) (Nat.le_of_ble_eq_true rfl) rfl rfl rfl ?_
    refine sp_weighAll hh11 ok (fun g => ?_)
    have inv2 : Inv (hWI I 11 nc g) := Inv_W inv
    have ok2 : ∀ c, c < nc → hWI I 11 nc g (11 + 1) c = nI (hK (hWI I 11 nc g) 11 c) ∧ hK (hWI I 11 nc g) 11 c < 7 := ok.2.2.1
    refine ev_ald0 k114_106 ?_
    refine ev_getr k114_107 (by first | assumption | rfl) rfl rfl rfl ?_
    refine ev_ald0 k114_110 ?_
    refine ev_getr k114_111 (by first | assumption | rfl) rfl rfl rfl ?_
    refine ev_cV1i k114_114 cs_194 (by first | assumption | rfl) (by omega) (Nat.le_of_ble_eq_true rfl) rfl rfl rfl ?_
    refine sp_taken (I := hWI I 11 nc g) hh11 (np := np) p1 p6 ?_
    refine ev_cV2i k114_117 cs_205 (by first | assumption | rfl) (by omega) (Nat.le_of_ble_eq_true rfl) rfl rfl rfl ?_
    refine sp_weightOf (I := hWI I 11 nc g) hh11 (nc := nc) c1 n6 ?_
    rw [show hTk (hWI I 11 nc g) 11 np = hTk (cells I 11) 0 np from rfl, woW]
    refine ev_ri k114_120 rfl ?_
    refine hQ _ _ ?_
    show mm_Ev mm_T0 X (d + 60) 241 0 [.ref 91, .int _] [] _ (mm_pi _)
    refine ev_ild1 k241_0 ?_
    refine ev_tb (l := [(0, 55), (1, 62), (2, 69), (3, 76), (4, 83), (5, 91), (6, 100), (7, 107), (8, 115), (9, 120)]) k241_1 rfl rfl ?_
    refine sw_cons (key := 0) (t := 56) rfl rfl (fun g1 => absurd g1 (by decide)) (fun g1_0 => ?_)
    refine sw_cons (key := 1) (t := 63) rfl rfl (fun g1 => absurd g1 (by decide)) (fun g1_1 => ?_)
    refine sw_cons (key := 2) (t := 70) rfl rfl (fun g1 => absurd g1 (by decide)) (fun g1_2 => ?_)
    refine sw_cons (key := 3) (t := 77) rfl rfl (fun g1 => absurd g1 (by decide)) (fun g1_3 => ?_)
    refine sw_cons (key := 4) (t := 84) rfl rfl (fun g1 => absurd g1 (by decide)) (fun g1_4 => ?_)
    refine sw_cons (key := 5) (t := 92) rfl rfl (fun g1 => ?_) (fun g1_5 => ?_)
    ·
      refine ev_ald0 k241_92 ?_
      refine ev_ald0 k241_93 ?_
      refine ev_cV1i k241_94 cs_235 (by first | assumption | rfl) (by omega) (Nat.le_of_ble_eq_true rfl) rfl rfl rfl ?_
      refine sm_taken (S := cells I 11) rm sr ?_
      refine ev_cV2i k241_97 cs_272 (by first | assumption | rfl) (by omega) (Nat.le_of_ble_eq_true rfl) rfl rfl rfl ?_
      refine sm_weightAll (S := cells I 11) rm ok sr tt (fun K hK => ?_)
      refine ev_ri k241_100 rfl ?_
      exact ⟨rfl, Inv_sc inv2 hK⟩
    refine sw_cons (key := 6) (t := 101) rfl rfl (fun g1 => absurd g1 (by decide)) (fun g1_6 => ?_)
    refine sw_cons (key := 7) (t := 108) rfl rfl (fun g1 => absurd g1 (by decide)) (fun g1_7 => ?_)
    refine sw_cons (key := 8) (t := 116) rfl rfl (fun g1 => absurd g1 (by decide)) (fun g1_8 => ?_)
    refine sw_cons (key := 9) (t := 121) rfl rfl (fun g1 => absurd g1 (by decide)) (fun g1_9 => ?_)
    exact absurd rfl g1_5
  refine sw_cons (key := 6) (t := 121) rfl rfl (fun h1 => ?_) (fun h1_6 => ?_)
  ·
    subst h1
    obtain ⟨⟨l1, tl1, tl2, tl3, tl4, tl5⟩, l2, wl1, wl2, wl3, wl4, wl5⟩ := hs.2.2.2.2.1
    obtain ⟨l3, el1, el2, el3, el4, el5⟩ := inv.2.2.2.1
    refine ev_ald0 k114_121 ?_
    refine ev_getr k114_122 (by first | assumption | rfl) rfl rfl rfl ?_
    refine ev_getr k114_125 (by first | assumption | rfl) rfl rfl rfl ?_
    refine ev_gfv (j := 2) k114_128 (by first | assumption | rfl) rfl rfl rfl rfl tl3 ?_
    refine ev_ri k114_131 rfl ?_
    refine hQ _ _ ?_
    show mm_Ev mm_T0 X (d + 60) 241 0 [.ref 91, .int _] [] _ (mm_pi _)
    refine ev_ild1 k241_0 ?_
    refine ev_tb (l := [(0, 55), (1, 62), (2, 69), (3, 76), (4, 83), (5, 91), (6, 100), (7, 107), (8, 115), (9, 120)]) k241_1 rfl rfl ?_
    refine sw_cons (key := 0) (t := 56) rfl rfl (fun g1 => absurd g1 (by decide)) (fun g1_0 => ?_)
    refine sw_cons (key := 1) (t := 63) rfl rfl (fun g1 => absurd g1 (by decide)) (fun g1_1 => ?_)
    refine sw_cons (key := 2) (t := 70) rfl rfl (fun g1 => absurd g1 (by decide)) (fun g1_2 => ?_)
    refine sw_cons (key := 3) (t := 77) rfl rfl (fun g1 => absurd g1 (by decide)) (fun g1_3 => ?_)
    refine sw_cons (key := 4) (t := 84) rfl rfl (fun g1 => absurd g1 (by decide)) (fun g1_4 => ?_)
    refine sw_cons (key := 5) (t := 92) rfl rfl (fun g1 => absurd g1 (by decide)) (fun g1_5 => ?_)
    refine sw_cons (key := 6) (t := 101) rfl rfl (fun g1 => ?_) (fun g1_6 => ?_)
    ·
      refine ev_ald0 k241_101 ?_
      refine ev_getr k241_102 (by first | assumption | rfl) rfl rfl rfl ?_
      refine ev_iconst k241_105 ?_
      refine ev_ialv (j := 5) k241_106 (by first | assumption | rfl) (by omega) rfl (vp_dec rfl) tl4 ?_
      refine ev_ri k241_107 rfl ?_
      first | exact ⟨rfl, Inv_e rfl rfl inv⟩ | exact ⟨rfl, inv⟩
    refine sw_cons (key := 7) (t := 108) rfl rfl (fun g1 => absurd g1 (by decide)) (fun g1_7 => ?_)
    refine sw_cons (key := 8) (t := 116) rfl rfl (fun g1 => absurd g1 (by decide)) (fun g1_8 => ?_)
    refine sw_cons (key := 9) (t := 121) rfl rfl (fun g1 => absurd g1 (by decide)) (fun g1_9 => ?_)
    exact absurd rfl g1_6
  refine sw_cons (key := 7) (t := 132) rfl rfl (fun h1 => ?_) (fun h1_7 => ?_)
  ·
    subst h1
    obtain ⟨⟨l1, tl1, tl2, tl3, tl4, tl5⟩, l2, wl1, wl2, wl3, wl4, wl5⟩ := hs.2.2.2.2.1
    obtain ⟨l3, el1, el2, el3, el4, el5⟩ := inv.2.2.2.1
    refine ev_ald0 k114_132 ?_
    refine ev_getr k114_133 (by first | assumption | rfl) rfl rfl rfl ?_
    refine ev_getr k114_136 (by first | assumption | rfl) rfl rfl rfl ?_
    refine ev_gfv (j := 2) k114_139 (by first | assumption | rfl) rfl rfl rfl rfl wl3 ?_
    refine ev_ri k114_142 rfl ?_
    refine hQ _ _ ?_
    show mm_Ev mm_T0 X (d + 60) 241 0 [.ref 91, .int _] [] _ (mm_pi _)
    refine ev_ild1 k241_0 ?_
    refine ev_tb (l := [(0, 55), (1, 62), (2, 69), (3, 76), (4, 83), (5, 91), (6, 100), (7, 107), (8, 115), (9, 120)]) k241_1 rfl rfl ?_
    refine sw_cons (key := 0) (t := 56) rfl rfl (fun g1 => absurd g1 (by decide)) (fun g1_0 => ?_)
    refine sw_cons (key := 1) (t := 63) rfl rfl (fun g1 => absurd g1 (by decide)) (fun g1_1 => ?_)
    refine sw_cons (key := 2) (t := 70) rfl rfl (fun g1 => absurd g1 (by decide)) (fun g1_2 => ?_)
    refine sw_cons (key := 3) (t := 77) rfl rfl (fun g1 => absurd g1 (by decide)) (fun g1_3 => ?_)
    refine sw_cons (key := 4) (t := 84) rfl rfl (fun g1 => absurd g1 (by decide)) (fun g1_4 => ?_)
    refine sw_cons (key := 5) (t := 92) rfl rfl (fun g1 => absurd g1 (by decide)) (fun g1_5 => ?_)
    refine sw_cons (key := 6) (t := 101) rfl rfl (fun g1 => absurd g1 (by decide)) (fun g1_6 => ?_)
    refine sw_cons (key := 7) (t := 108) rfl rfl (fun g1 => ?_) (fun g1_7 => ?_)
    ·
      refine ev_ald0 k241_108 ?_
      refine ev_getr k241_109 (by first | assumption | rfl) rfl rfl rfl ?_
      refine ev_bipush k241_112 ?_
      refine ev_ialv (j := 6) k241_114 (by first | assumption | rfl) (by omega) rfl (vp_dec rfl) wl4 ?_
      refine ev_ri k241_115 rfl ?_
      first | exact ⟨rfl, Inv_e rfl rfl inv⟩ | exact ⟨rfl, inv⟩
    refine sw_cons (key := 8) (t := 116) rfl rfl (fun g1 => absurd g1 (by decide)) (fun g1_8 => ?_)
    refine sw_cons (key := 9) (t := 121) rfl rfl (fun g1 => absurd g1 (by decide)) (fun g1_9 => ?_)
    exact absurd rfl g1_7
  refine sw_cons (key := 8) (t := 143) rfl rfl (fun h1 => ?_) (fun h1_8 => ?_)
  ·
    subst h1
    obtain ⟨⟨l1, tl1, tl2, tl3, tl4, tl5⟩, l2, wl1, wl2, wl3, wl4, wl5⟩ := hs.2.2.2.2.1
    obtain ⟨l3, el1, el2, el3, el4, el5⟩ := inv.2.2.2.1
    refine ev_ald0 k114_143 ?_
    refine ev_getr k114_144 (by first | assumption | rfl) rfl rfl rfl ?_
    refine ev_gfv (j := 2) k114_147 (by first | assumption | rfl) rfl rfl rfl rfl el3 ?_
    refine ev_ri k114_150 rfl ?_
    refine hQ _ _ ?_
    show mm_Ev mm_T0 X (d + 60) 241 0 [.ref 91, .int _] [] _ (mm_pi _)
    refine ev_ild1 k241_0 ?_
    refine ev_tb (l := [(0, 55), (1, 62), (2, 69), (3, 76), (4, 83), (5, 91), (6, 100), (7, 107), (8, 115), (9, 120)]) k241_1 rfl rfl ?_
    refine sw_cons (key := 0) (t := 56) rfl rfl (fun g1 => absurd g1 (by decide)) (fun g1_0 => ?_)
    refine sw_cons (key := 1) (t := 63) rfl rfl (fun g1 => absurd g1 (by decide)) (fun g1_1 => ?_)
    refine sw_cons (key := 2) (t := 70) rfl rfl (fun g1 => absurd g1 (by decide)) (fun g1_2 => ?_)
    refine sw_cons (key := 3) (t := 77) rfl rfl (fun g1 => absurd g1 (by decide)) (fun g1_3 => ?_)
    refine sw_cons (key := 4) (t := 84) rfl rfl (fun g1 => absurd g1 (by decide)) (fun g1_4 => ?_)
    refine sw_cons (key := 5) (t := 92) rfl rfl (fun g1 => absurd g1 (by decide)) (fun g1_5 => ?_)
    refine sw_cons (key := 6) (t := 101) rfl rfl (fun g1 => absurd g1 (by decide)) (fun g1_6 => ?_)
    refine sw_cons (key := 7) (t := 108) rfl rfl (fun g1 => absurd g1 (by decide)) (fun g1_7 => ?_)
    refine sw_cons (key := 8) (t := 116) rfl rfl (fun g1 => ?_) (fun g1_8 => ?_)
    ·
      refine ev_ald0 k241_116 ?_
      refine ev_gfv (j := 15) k241_117 (by first | assumption | rfl) rfl rfl rfl rfl el4 ?_
      refine ev_ri k241_120 rfl ?_
      first | exact ⟨rfl, Inv_e rfl rfl inv⟩ | exact ⟨rfl, inv⟩
    refine sw_cons (key := 9) (t := 121) rfl rfl (fun g1 => absurd g1 (by decide)) (fun g1_9 => ?_)
    exact absurd rfl g1_8
  refine sw_cons (key := 9) (t := 151) rfl rfl (fun h1 => ?_) (fun h1_9 => ?_)
  ·
    subst h1
    refine ev_ald0 k114_151 ?_
    refine ev_getr k114_152 (by first | assumption | rfl) rfl rfl rfl ?_
    refine ev_gfv (j := 17) k114_155 (by first | assumption | rfl) rfl rfl rfl rfl (rm.2.2.2.2.1).symm ?_
    refine ev_ri k114_158 rfl ?_
    refine hQ _ _ ?_
    show mm_Ev mm_T0 X (d + 60) 241 0 [.ref 91, .int _] [] _ (mm_pi _)
    refine ev_ild1 k241_0 ?_
    refine ev_tb (l := [(0, 55), (1, 62), (2, 69), (3, 76), (4, 83), (5, 91), (6, 100), (7, 107), (8, 115), (9, 120)]) k241_1 rfl rfl ?_
    refine sw_cons (key := 0) (t := 56) rfl rfl (fun g1 => absurd g1 (by decide)) (fun g1_0 => ?_)
    refine sw_cons (key := 1) (t := 63) rfl rfl (fun g1 => absurd g1 (by decide)) (fun g1_1 => ?_)
    refine sw_cons (key := 2) (t := 70) rfl rfl (fun g1 => absurd g1 (by decide)) (fun g1_2 => ?_)
    refine sw_cons (key := 3) (t := 77) rfl rfl (fun g1 => absurd g1 (by decide)) (fun g1_3 => ?_)
    refine sw_cons (key := 4) (t := 84) rfl rfl (fun g1 => absurd g1 (by decide)) (fun g1_4 => ?_)
    refine sw_cons (key := 5) (t := 92) rfl rfl (fun g1 => absurd g1 (by decide)) (fun g1_5 => ?_)
    refine sw_cons (key := 6) (t := 101) rfl rfl (fun g1 => absurd g1 (by decide)) (fun g1_6 => ?_)
    refine sw_cons (key := 7) (t := 108) rfl rfl (fun g1 => absurd g1 (by decide)) (fun g1_7 => ?_)
    refine sw_cons (key := 8) (t := 116) rfl rfl (fun g1 => absurd g1 (by decide)) (fun g1_8 => ?_)
    refine sw_cons (key := 9) (t := 121) rfl rfl (fun g1 => ?_) (fun g1_9 => ?_)
    ·
      refine ev_ald0 k241_121 ?_
      refine ev_getr k241_122 (by first | assumption | rfl) rfl rfl rfl ?_
      refine ev_iconst k241_125 ?_
      refine ev_ial (j := 1) k241_126 (by first | assumption | rfl) (by omega) rfl (vp_dec rfl) ?_
      refine ev_ri k241_127 rfl ?_
      first | exact ⟨rfl, Inv_e rfl rfl inv⟩ | exact ⟨rfl, inv⟩
    exact absurd rfl g1_9
  refine sw_nil (t := 159) rfl ?_
  refine ev_ald0 k114_159 ?_
  refine ev_ldc k114_160 ?_
  refine ev_cV2i k114_162 cs_174 (by first | assumption | rfl) (by omega) (Nat.le_of_ble_eq_true rfl) rfl rfl rfl ?_
  refine sp_error (k := 1) (by decide) (by decide) (by decide) ?_
  refine ev_ri k114_165 rfl ?_
  refine hQ _ _ ?_
  show mm_Ev mm_T0 X (d + 60) 241 0 [.ref 91, .int _] [] _ (mm_pi _)
  refine ev_ild1 k241_0 ?_
  refine ev_tb (l := [(0, 55), (1, 62), (2, 69), (3, 76), (4, 83), (5, 91), (6, 100), (7, 107), (8, 115), (9, 120)]) k241_1 rfl rfl ?_
  refine sw_cons (key := 0) (t := 56) rfl rfl (fun g1 => absurd g1 h1_0) (fun g1_0 => ?_)
  refine sw_cons (key := 1) (t := 63) rfl rfl (fun g1 => absurd g1 h1_1) (fun g1_1 => ?_)
  refine sw_cons (key := 2) (t := 70) rfl rfl (fun g1 => absurd g1 h1_2) (fun g1_2 => ?_)
  refine sw_cons (key := 3) (t := 77) rfl rfl (fun g1 => absurd g1 h1_3) (fun g1_3 => ?_)
  refine sw_cons (key := 4) (t := 84) rfl rfl (fun g1 => absurd g1 h1_4) (fun g1_4 => ?_)
  refine sw_cons (key := 5) (t := 92) rfl rfl (fun g1 => absurd g1 h1_5) (fun g1_5 => ?_)
  refine sw_cons (key := 6) (t := 101) rfl rfl (fun g1 => absurd g1 h1_6) (fun g1_6 => ?_)
  refine sw_cons (key := 7) (t := 108) rfl rfl (fun g1 => absurd g1 h1_7) (fun g1_7 => ?_)
  refine sw_cons (key := 8) (t := 116) rfl rfl (fun g1 => absurd g1 h1_8) (fun g1_8 => ?_)
  refine sw_cons (key := 9) (t := 121) rfl rfl (fun g1 => absurd g1 h1_9) (fun g1_9 => ?_)
  refine sw_nil (t := 128) rfl ?_
  refine ev_ald0 k241_128 ?_
  refine ev_ldc k241_129 ?_
  refine ev_cV2i k241_131 cs_238 (by first | assumption | rfl) (by omega) (Nat.le_of_ble_eq_true rfl) rfl rfl rfl ?_
  refine sm_error (k := 1) (by decide) (by decide) ?_
  refine ev_ri k241_134 rfl ?_
  first | exact ⟨rfl, Inv_e rfl rfl inv⟩ | exact ⟨rfl, inv⟩
