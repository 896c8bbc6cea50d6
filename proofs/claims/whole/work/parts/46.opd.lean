/-! Sitting down; what waits; images -/
theorem HS_tp {S S' : mm_I} {R R' : Nat → Int32} {nc np : Nat} (H : HS S R nc np) (hs : ∀ k, k < 17 → S' k = S k) (hr : ∀ j, j ≠ 5 → j ≠ 6 → ¬ (49 ≤ j ∧ j < 119) → R' j = R j) (t : tpR S' R') : HS S' R' nc np := by
  obtain ⟨⟨⟨q1, q2, q3, q4, q5, q6⟩, rc, rp, q7, q8, q9⟩, ok, sr, tt, -, z, hz, ez⟩ := H
  dsimp only at q1 q3 rc rp q7 q8 q9
  have w : wfS S' nc np := wf_congr (S := fun k => if k < 17 then S k else S' k) (fun k _ _ _ _ => by
    by_cases h : k < 17
    · rw [if_pos h]; exact hs k h
    · rw [if_neg h]) ⟨q6, q4, ok, sr, z, hz, ez⟩
  refine ⟨⟨⟨(hr 2 (by omega) (by omega) (by omega)).trans q1, q2, (hr 3 (by omega) (by omega) (by omega)).trans q3, q4, w.2.2.1.1, w.1⟩, fun c hc => ?_, fun p hp => ?_, ?_, ?_, ?_⟩, w.2.2.1, w.2.2.2.1, TR_congr3 (fun j hj => hr j (by omega) (by omega) (by omega)) (hs 10 (by omega)) (hs 11 (by omega)) (hs 14 (by omega)) (hs 15 (by omega)) tt, t, w.2.2.2.2⟩
  · dsimp only
    rw [hr _ (by omega) (by omega) (by omega), hr _ (by omega) (by omega) (by omega), hr _ (by omega) (by omega) (by omega), hr _ (by omega) (by omega) (by omega), hs 1 (by omega), hs 2 (by omega), hs 3 (by omega), hs 4 (by omega)]
    exact rc c hc
  · dsimp only
    rw [hr _ (by omega) (by omega) (by omega), hr _ (by omega) (by omega) (by omega), hr _ (by omega) (by omega) (by omega), hs 6 (by omega), hs 7 (by omega), hs 8 (by omega)]
    exact rp p hp
  · dsimp only; rw [hr _ (by omega) (by omega) (by omega), hs 0 (by omega)]; exact q7
  · dsimp only; rw [hr _ (by omega) (by omega) (by omega), hs 0 (by omega)]; exact q8
  · dsimp only; rw [hr _ (by omega) (by omega) (by omega), hs 0 (by omega)]; exact q9
theorem HS_wait {S : mm_I} {R : Nat → Int32} {nc np l : Nat} {v : Int32} (H : HS S R nc np) (hl : S 19 2 = nI l) (hl20 : l < 20) : HS (mm_up (mm_up S 20 l v) 19 2 (nI (l + 1))) (upd (upd R (99 + l) v) 6 (nI (l + 1))) nc np := by
  obtain ⟨⟨l0, tl1, tl2, tl3, tl4, tl5⟩, ⟨u, wl1, wl2, wl3, wl4, wl5⟩⟩ := H.2.2.2.2.1
  have e : u = l := by rw [wl3] at hl; exact (nI_eq (by omega) (by omega)).mp hl
  subst e
  refine HS_tp H (fun k hk => by rw [mm_up_ne _ _ _ _ _ (by omega), mm_up_ne _ _ _ _ _ (by omega)]) (fun j a b c => by simp only [upd]; rw [if_neg (by omega), if_neg (by omega)]) ⟨⟨l0, tl1, tl2, tl3, ?_, fun j hj => ?_⟩, ⟨u + 1, by omega, ?_, by simp [mm_up_at], by simp [upd], fun j hj => ?_⟩⟩
  · simp only [upd]; rw [if_neg (by omega), if_neg (by omega)]; exact tl4
  · simp only [upd]; rw [if_neg (by omega), if_neg (by omega), mm_up_ne _ _ _ _ _ (by omega), mm_up_ne _ _ _ _ _ (by omega)]; exact tl5 j hj
  · rw [mm_up_at, if_neg (by omega), mm_up_ne _ _ _ _ _ (by omega)]; exact wl2
  · rw [mm_up_ne _ _ _ _ _ (by omega), mm_up_at]
    simp only [upd]
    rw [if_neg (show ¬ 99 + j = 6 by omega)]
    by_cases h : j = u
    · subst h; simp
    · rw [if_neg (fun z => h z.2), if_neg (by omega)]; exact wl5 j (by omega)
theorem cut32 (v : Int32) : cut 32 v = v := by simp [cut]
theorem hSt_own {S : mm_I} {nc np p c : Nat} (sr : sR S nc np) (hn6 : np ≤ 6) (hp : p < np) (hc : c < 6) (h : S 8 p = nI c) : hSt S 0 np (nI c) = nI p := by
  rcases hSt_spec (S := S) (np := np) (c := nI c) with ⟨-, h2⟩ | ⟨q, h1, h2, h3⟩
  · exact absurd h (h2 p hp)
  · rw [h2, sr.2.2 q p h1 hp (h3.trans h.symm) (by rw [h3]; exact m1_ne (by omega))]
theorem hSt_oth {S : mm_I} {nc np p c : Nat} (sr : sR S nc np) (hp6 : np ≤ 6) (hp : p < np) (h : ¬ S 8 p = nI c) : ¬ hSt S 0 np (nI c) = nI p := by
  intro z
  rcases hSt_spec (S := S) (np := np) (c := nI c) with ⟨h1, -⟩ | ⟨q, h1, h2, h3⟩
  · rw [h1] at z; exact m1_ne (by omega) z.symm
  · rw [h2] at z
    have := (nI_eq (by omega) (by omega)).mp z
    rw [this] at h3
    exact h h3
theorem hSt_non {S : mm_I} {np c : Nat} (hp6 : np ≤ 6) (h : hSt S 0 np (nI c) < 0) : ∀ q, q < np → S 8 q ≠ nI c := by
  rcases hSt_spec (S := S) (np := np) (c := nI c) with ⟨-, h2⟩ | ⟨q, h1, h2, -⟩
  · exact h2
  · rw [h2] at h; exact absurd h (nI_pos (by omega))
/-- CV.sit -/
theorem op_sit {X : Nat × (Nat → Int32)} {d : Nat} {I : mm_I} {P : Int32 → mm_I → Prop} {a : Int32} {b : Int32} (inv : Inv I) (hQ : ∀ v J, mm_Ev mm_T0 X (d + 60) 169 0 (mm_ent 169 [.ref 91, .int a, .int b]) [] J (mm_pi fun w K => w = v ∧ Inv K) → P v J) : mm_Ev mm_T0 X (d + 60) 84 0 (mm_ent 84 [.ref 0, .int a, .int b]) [] I (mm_pi P) := by
  show mm_Ev mm_T0 X (d + 60) 84 0 [.ref 0, .int a, .int b, .retAddr 0] [] I (mm_pi P)
  obtain ⟨nc, np, hs⟩ := inv.1
  obtain ⟨c1, n6, p1, p6, rc, rp, rm, ok, sr, tt⟩ := hsF hs
  have t0 := tCV
  have tm := tM
  have tr := tR
  refine ev_ald0 k84_0 ?_
  refine ev_ild1 k84_1 ?_
  refine ev_cV2i k84_2 cs_183 (by first | assumption | rfl) (by omega) (Nat.le_of_ble_eq_true rfl) rfl rfl rfl ?_
  refine sp_cMember p1 ?_
  refine ev_ifz_eq k84_5 (fun h5 => ?_) (fun h5 => ?_)
  ·
    refine ev_ald0 k84_21 ?_
    refine ev_ldc k84_22 ?_
    refine ev_cV2i k84_24 cs_174 (by first | assumption | rfl) (by omega) (Nat.le_of_ble_eq_true rfl) rfl rfl rfl ?_
    refine sp_error (k := 1) (by decide) (by decide) (by decide) ?_
    refine ev_ri k84_27 rfl ?_
    refine hQ _ _ ?_
    show mm_Ev mm_T0 X (d + 60) 169 0 [.ref 91, .int _, .int _, .retAddr 0] [] _ (mm_pi _)
    refine ev_ald0 k169_0 ?_
    refine ev_ild1 k169_1 ?_
    refine ev_cV2i k169_2 cs_245 (by first | assumption | rfl) (by omega) (Nat.le_of_ble_eq_true rfl) rfl rfl rfl ?_
    refine sm_cMember (show _ = nI np from rp) ?_
    refine ev_ifz_eq k169_5 (fun g5 => ?_) (fun g5 => Bool.noConfusion (Eq.trans (Eq.symm h5) g5))
    refine ev_ald0 k169_21 ?_
    refine ev_ldc k169_22 ?_
    refine ev_cV2i k169_24 cs_238 (by first | assumption | rfl) (by omega) (Nat.le_of_ble_eq_true rfl) rfl rfl rfl ?_
    refine sm_error (k := 1) (by decide) (by decide) ?_
    refine ev_ri k169_27 rfl ?_
    first | exact ⟨rfl, Inv_e rfl rfl inv⟩ | exact ⟨rfl, inv⟩
  ·
    obtain ⟨p, hp, rfl⟩ := wB_in (n := np) (by omega) h5
    refine ev_ild2 k84_8 ?_
    refine ev_iconst k84_9 ?_
    refine ev_icmp_eq k84_10 (fun h10 => ?_) (fun h10 => ?_)
    ·
      subst h10
      refine ev_ald0 k84_28 ?_
      refine ev_getr k84_29 (by first | assumption | rfl) rfl rfl rfl ?_
      refine ev_getr k84_32 (by first | assumption | rfl) rfl rfl rfl ?_
      refine ev_ild1 k84_35 ?_
      refine ev_ial (j := p) k84_36 (by first | assumption | rfl) (by omega) (nI_clamp (by omega)) (vp_in_nI (show p < 6 by omega) (by omega)) ?_
      refine ev_ist3 k84_37 rfl ?_
      refine ev_ild2 k84_38 ?_
      refine ev_iconst k84_39 ?_
      refine ev_icmp_eq k84_40 (fun h40 => ?_) (fun h40 => absurd rfl h40)
      refine ev_ald0 k84_66 ?_
      refine ev_getr k84_67 (by first | assumption | rfl) rfl rfl rfl ?_
      refine ev_getr k84_70 (by first | assumption | rfl) rfl rfl rfl ?_
      refine ev_ild1 k84_73 ?_
      refine ev_ild2 k84_74 ?_
      refine ev_ias (j := p) k84_75 (by first | assumption | rfl) (nI_clamp (by omega)) (vp_in_nI (show p < 6 by omega) (by omega)) ?_
      refine ev_ild3 k84_76 ?_
      refine ev_ri k84_77 rfl ?_
      refine hQ _ _ ?_
      show mm_Ev mm_T0 X (d + 60) 169 0 [.ref 91, .int _, .int _, .retAddr 0] [] _ (mm_pi _)
      refine ev_ald0 k169_0 ?_
      refine ev_ild1 k169_1 ?_
      refine ev_cV2i k169_2 cs_245 (by first | assumption | rfl) (by omega) (Nat.le_of_ble_eq_true rfl) rfl rfl rfl ?_
      refine sm_cMember (show _ = nI np from rp) ?_
      refine ev_ifz_eq k169_5 (fun g5 => Bool.noConfusion (Eq.trans (Eq.symm h5) g5)) (fun g5 => ?_)
      refine ev_ild2 k169_8 ?_
      refine ev_iconst k169_9 ?_
      refine ev_icmp_eq k169_10 (fun g10 => ?_) (fun g10 => absurd rfl g10)
      refine ev_ild2 k169_28 ?_
      refine ev_iconst k169_29 ?_
      refine ev_icmp_ne k169_30 (fun g30 => absurd rfl g30) (fun g30 => ?_)
      refine ev_iconst k169_33 ?_
      refine ev_goto k169_34 ?_
      refine ev_ist3 k169_42 rfl ?_
      refine ev_ild3 k169_43 ?_
      refine ev_if_lt k169_44 (fun g44 => ?_) (fun g44 => absurd (by decide) g44)
      refine ev_ald0 k169_61 ?_
      refine ev_bipush k169_62 ?_
      refine ev_iconst k169_64 ?_
      refine ev_ild1 k169_65 ?_
      refine ev_imul k169_66 ?_
      refine ev_iadd k169_67 ?_
      refine ev_iconst k169_68 ?_
      refine ev_iadd k169_69 ?_
      refine ev_ild2 k169_70 ?_
      refine ev_cV3i k169_71 cs_241 (by first | assumption | rfl) (by omega) (Nat.le_of_ble_eq_true rfl) rfl rfl rfl ?_
      rw [show (31 : Int32) + 3 * nI p + 2 = nI (31 + 3 * p + 2) from idx31 p 2]
      refine sm_becomes (by omega) ?_
      refine ev_ri k169_74 rfl ?_
      have H2 : HS (mm_up (cells I 11) 8 p (-1)) (upd (I 92) (31 + 3 * p + 2) (-1)) nc np := HS_member (w := 2) (by decide) hp (fun z => absurd z (by decide)) (fun z => absurd z (by decide)) (fun _ => Or.inl rfl) hs
      exact ⟨(rm.2.2.1 p hp).2.2, Inv_up1 8 (by decide) inv H2⟩
    ·
      refine ev_ald0 k84_13 ?_
      refine ev_ild2 k84_14 ?_
      refine ev_cV2i k84_15 cs_176 (by first | assumption | rfl) (by omega) (Nat.le_of_ble_eq_true rfl) rfl rfl rfl ?_
      refine sp_cChair c1 ?_
      refine ev_ifz_ne k84_18 (fun h18 => ?_) (fun h18 => ?_)
      ·
        obtain ⟨c, hc, rfl⟩ := wB_in (n := nc) (by omega) h18
        refine ev_ald0 k84_28 ?_
        refine ev_getr k84_29 (by first | assumption | rfl) rfl rfl rfl ?_
        refine ev_getr k84_32 (by first | assumption | rfl) rfl rfl rfl ?_
        refine ev_ild1 k84_35 ?_
        refine ev_ial (j := p) k84_36 (by first | assumption | rfl) (by omega) (nI_clamp (by omega)) (vp_in_nI (show p < 6 by omega) (by omega)) ?_
        refine ev_ist3 k84_37 rfl ?_
        refine ev_ild2 k84_38 ?_
        refine ev_iconst k84_39 ?_
        refine ev_icmp_eq k84_40 (fun h40 => absurd h40 h10) (fun h40 => ?_)
        refine ev_ild2 k84_43 ?_
        refine ev_ild3 k84_44 ?_
        refine ev_icmp_eq k84_45 (fun h45 => ?_) (fun h45 => ?_)
        ·
          refine ev_ald0 k84_66 ?_
          refine ev_getr k84_67 (by first | assumption | rfl) rfl rfl rfl ?_
          refine ev_getr k84_70 (by first | assumption | rfl) rfl rfl rfl ?_
          refine ev_ild1 k84_73 ?_
          refine ev_ild2 k84_74 ?_
          refine ev_ias (j := p) k84_75 (by first | assumption | rfl) (nI_clamp (by omega)) (vp_in_nI (show p < 6 by omega) (by omega)) ?_
          refine ev_ild3 k84_76 ?_
          refine ev_ri k84_77 rfl ?_
          refine hQ _ _ ?_
          show mm_Ev mm_T0 X (d + 60) 169 0 [.ref 91, .int _, .int _, .retAddr 0] [] _ (mm_pi _)
          refine ev_ald0 k169_0 ?_
          refine ev_ild1 k169_1 ?_
          refine ev_cV2i k169_2 cs_245 (by first | assumption | rfl) (by omega) (Nat.le_of_ble_eq_true rfl) rfl rfl rfl ?_
          refine sm_cMember (show _ = nI np from rp) ?_
          refine ev_ifz_eq k169_5 (fun g5 => Bool.noConfusion (Eq.trans (Eq.symm h5) g5)) (fun g5 => ?_)
          refine ev_ild2 k169_8 ?_
          refine ev_iconst k169_9 ?_
          refine ev_icmp_eq k169_10 (fun g10 => absurd g10 h10) (fun g10 => ?_)
          refine ev_ald0 k169_13 ?_
          refine ev_ild2 k169_14 ?_
          refine ev_cV2i k169_15 cs_239 (by first | assumption | rfl) (by omega) (Nat.le_of_ble_eq_true rfl) rfl rfl rfl ?_
          refine sm_cChair (show _ = nI nc from rc) ?_
          refine ev_ifz_ne k169_18 (fun g18 => ?_) (fun g18 => Bool.noConfusion (Eq.trans (Eq.symm h18) g18))
          refine ev_ild2 k169_28 ?_
          refine ev_iconst k169_29 ?_
          refine ev_icmp_ne k169_30 (fun g30 => ?_) (fun g30 => absurd g30 h10)
          refine ev_ald0 k169_37 ?_
          refine ev_ild2 k169_38 ?_
          refine ev_cV2i k169_39 cs_240 (by first | assumption | rfl) (by omega) (Nat.le_of_ble_eq_true rfl) rfl rfl rfl ?_
          refine sm_whoAt (S := cells I 11) rm ?_
          rw [hSt_own (S := cells I 11) (c := c) sr p6 hp (show c < 6 by omega) h45.symm]
          refine ev_ist3 k169_42 rfl ?_
          refine ev_ild3 k169_43 ?_
          refine ev_if_lt k169_44 (fun g44 => absurd g44 (nI_pos (by omega))) (fun g44 => ?_)
          refine ev_ild3 k169_47 ?_
          refine ev_ild1 k169_48 ?_
          refine ev_icmp_eq k169_49 (fun g49 => ?_) (fun g49 => absurd rfl g49)
          refine ev_ald0 k169_61 ?_
          refine ev_bipush k169_62 ?_
          refine ev_iconst k169_64 ?_
          refine ev_ild1 k169_65 ?_
          refine ev_imul k169_66 ?_
          refine ev_iadd k169_67 ?_
          refine ev_iconst k169_68 ?_
          refine ev_iadd k169_69 ?_
          refine ev_ild2 k169_70 ?_
          refine ev_cV3i k169_71 cs_241 (by first | assumption | rfl) (by omega) (Nat.le_of_ble_eq_true rfl) rfl rfl rfl ?_
          rw [show (31 : Int32) + 3 * nI p + 2 = nI (31 + 3 * p + 2) from idx31 p 2]
          refine sm_becomes (by omega) ?_
          refine ev_ri k169_74 rfl ?_
          have hd : ∀ q, q < np → q ≠ p → cells I 11 8 q ≠ nI c := fun q hq hqp z => hqp (sr.2.2 q p hq hp (z.trans (show nI c = cells I 11 8 p from h45)) (fun y => m1_ne (show c < 2 ^ 31 by omega) (z.symm.trans y)))
          have H2 : HS (mm_up (cells I 11) 8 p (nI c)) (upd (I 92) (31 + 3 * p + 2) (nI c)) nc np := HS_member (w := 2) (by decide) hp (fun z => absurd z (by decide)) (fun z => absurd z (by decide)) (fun _ => Or.inr ⟨⟨c, hc, rfl⟩, hd⟩) hs
          exact ⟨(rm.2.2.1 p hp).2.2, Inv_up1 8 (by decide) inv H2⟩
        ·
          refine ev_ald0 k84_48 ?_
          refine ev_getr k84_49 (by first | assumption | rfl) rfl rfl rfl ?_
          refine ev_ild2 k84_52 ?_
          refine ev_cV2i k84_53 cs_177 (by first | assumption | rfl) (by omega) (Nat.le_of_ble_eq_true rfl) rfl rfl rfl ?_
          refine sp_sitterOf hh11 p1 p6 ?_
          refine ev_if_lt k84_56 (fun h56 => ?_) (fun h56 => ?_)
          ·
            refine ev_ald0 k84_66 ?_
            refine ev_getr k84_67 (by first | assumption | rfl) rfl rfl rfl ?_
            refine ev_getr k84_70 (by first | assumption | rfl) rfl rfl rfl ?_
            refine ev_ild1 k84_73 ?_
            refine ev_ild2 k84_74 ?_
            refine ev_ias (j := p) k84_75 (by first | assumption | rfl) (nI_clamp (by omega)) (vp_in_nI (show p < 6 by omega) (by omega)) ?_
            refine ev_ild3 k84_76 ?_
            refine ev_ri k84_77 rfl ?_
            refine hQ _ _ ?_
            show mm_Ev mm_T0 X (d + 60) 169 0 [.ref 91, .int _, .int _, .retAddr 0] [] _ (mm_pi _)
            refine ev_ald0 k169_0 ?_
            refine ev_ild1 k169_1 ?_
            refine ev_cV2i k169_2 cs_245 (by first | assumption | rfl) (by omega) (Nat.le_of_ble_eq_true rfl) rfl rfl rfl ?_
            refine sm_cMember (show _ = nI np from rp) ?_
            refine ev_ifz_eq k169_5 (fun g5 => Bool.noConfusion (Eq.trans (Eq.symm h5) g5)) (fun g5 => ?_)
            refine ev_ild2 k169_8 ?_
            refine ev_iconst k169_9 ?_
            refine ev_icmp_eq k169_10 (fun g10 => absurd g10 h10) (fun g10 => ?_)
            refine ev_ald0 k169_13 ?_
            refine ev_ild2 k169_14 ?_
            refine ev_cV2i k169_15 cs_239 (by first | assumption | rfl) (by omega) (Nat.le_of_ble_eq_true rfl) rfl rfl rfl ?_
            refine sm_cChair (show _ = nI nc from rc) ?_
            refine ev_ifz_ne k169_18 (fun g18 => ?_) (fun g18 => Bool.noConfusion (Eq.trans (Eq.symm h18) g18))
            refine ev_ild2 k169_28 ?_
            refine ev_iconst k169_29 ?_
            refine ev_icmp_ne k169_30 (fun g30 => ?_) (fun g30 => absurd g30 h10)
            refine ev_ald0 k169_37 ?_
            refine ev_ild2 k169_38 ?_
            refine ev_cV2i k169_39 cs_240 (by first | assumption | rfl) (by omega) (Nat.le_of_ble_eq_true rfl) rfl rfl rfl ?_
            refine sm_whoAt (S := cells I 11) rm ?_
            refine ev_ist3 k169_42 rfl ?_
            refine ev_ild3 k169_43 ?_
            refine ev_if_lt k169_44 (fun g44 => ?_) (fun g44 => absurd h56 g44)
            refine ev_ald0 k169_61 ?_
            refine ev_bipush k169_62 ?_
            refine ev_iconst k169_64 ?_
            refine ev_ild1 k169_65 ?_
            refine ev_imul k169_66 ?_
            refine ev_iadd k169_67 ?_
            refine ev_iconst k169_68 ?_
            refine ev_iadd k169_69 ?_
            refine ev_ild2 k169_70 ?_
            refine ev_cV3i k169_71 cs_241 (by first | assumption | rfl) (by omega) (Nat.le_of_ble_eq_true rfl) rfl rfl rfl ?_
            rw [show (31 : Int32) + 3 * nI p + 2 = nI (31 + 3 * p + 2) from idx31 p 2]
            refine sm_becomes (by omega) ?_
            refine ev_ri k169_74 rfl ?_
            have H2 : HS (mm_up (cells I 11) 8 p (nI c)) (upd (I 92) (31 + 3 * p + 2) (nI c)) nc np := HS_member (w := 2) (by decide) hp (fun z => absurd z (by decide)) (fun z => absurd z (by decide)) (fun _ => Or.inr ⟨⟨c, hc, rfl⟩, fun q hq _ => hSt_non (S := cells I 11) (c := c) p6 h56 q hq⟩) hs
            exact ⟨(rm.2.2.1 p hp).2.2, Inv_up1 8 (by decide) inv H2⟩
          ·
            refine ev_ald0 k84_59 ?_
            refine ev_ldc k84_60 ?_
            refine ev_cV2i k84_62 cs_174 (by first | assumption | rfl) (by omega) (Nat.le_of_ble_eq_true rfl) rfl rfl rfl ?_
            refine sp_error (k := 3) (by decide) (by decide) (by decide) ?_
            refine ev_ri k84_65 rfl ?_
            refine hQ _ _ ?_
            show mm_Ev mm_T0 X (d + 60) 169 0 [.ref 91, .int _, .int _, .retAddr 0] [] _ (mm_pi _)
            refine ev_ald0 k169_0 ?_
            refine ev_ild1 k169_1 ?_
            refine ev_cV2i k169_2 cs_245 (by first | assumption | rfl) (by omega) (Nat.le_of_ble_eq_true rfl) rfl rfl rfl ?_
            refine sm_cMember (show _ = nI np from rp) ?_
            refine ev_ifz_eq k169_5 (fun g5 => Bool.noConfusion (Eq.trans (Eq.symm h5) g5)) (fun g5 => ?_)
            refine ev_ild2 k169_8 ?_
            refine ev_iconst k169_9 ?_
            refine ev_icmp_eq k169_10 (fun g10 => absurd g10 h10) (fun g10 => ?_)
            refine ev_ald0 k169_13 ?_
            refine ev_ild2 k169_14 ?_
            refine ev_cV2i k169_15 cs_239 (by first | assumption | rfl) (by omega) (Nat.le_of_ble_eq_true rfl) rfl rfl rfl ?_
            refine sm_cChair (show _ = nI nc from rc) ?_
            refine ev_ifz_ne k169_18 (fun g18 => ?_) (fun g18 => Bool.noConfusion (Eq.trans (Eq.symm h18) g18))
            refine ev_ild2 k169_28 ?_
            refine ev_iconst k169_29 ?_
            refine ev_icmp_ne k169_30 (fun g30 => ?_) (fun g30 => absurd g30 h10)
            refine ev_ald0 k169_37 ?_
            refine ev_ild2 k169_38 ?_
            refine ev_cV2i k169_39 cs_240 (by first | assumption | rfl) (by omega) (Nat.le_of_ble_eq_true rfl) rfl rfl rfl ?_
            refine sm_whoAt (S := cells I 11) rm ?_
            refine ev_ist3 k169_42 rfl ?_
            refine ev_ild3 k169_43 ?_
            refine ev_if_lt k169_44 (fun g44 => absurd g44 h56) (fun g44 => ?_)
            refine ev_ild3 k169_47 ?_
            refine ev_ild1 k169_48 ?_
            refine ev_icmp_eq k169_49 (fun g49 => absurd g49 (hSt_oth (S := cells I 11) (c := c) sr p6 hp (fun z => h45 z.symm))) (fun g49 => ?_)
            refine ev_ald0 k169_52 ?_
            refine ev_ldc k169_53 ?_
            refine ev_cV2i k169_55 cs_238 (by first | assumption | rfl) (by omega) (Nat.le_of_ble_eq_true rfl) rfl rfl rfl ?_
            refine sm_error (k := 3) (by decide) (by decide) ?_
            refine ev_goto k169_58 ?_
            refine ev_ri k169_74 rfl ?_
            first | exact ⟨rfl, Inv_e rfl rfl inv⟩ | exact ⟨rfl, inv⟩
      ·
        refine ev_ald0 k84_21 ?_
        refine ev_ldc k84_22 ?_
        refine ev_cV2i k84_24 cs_174 (by first | assumption | rfl) (by omega) (Nat.le_of_ble_eq_true rfl) rfl rfl rfl ?_
        refine sp_error (k := 1) (by decide) (by decide) (by decide) ?_
        refine ev_ri k84_27 rfl ?_
        refine hQ _ _ ?_
        show mm_Ev mm_T0 X (d + 60) 169 0 [.ref 91, .int _, .int _, .retAddr 0] [] _ (mm_pi _)
        refine ev_ald0 k169_0 ?_
        refine ev_ild1 k169_1 ?_
        refine ev_cV2i k169_2 cs_245 (by first | assumption | rfl) (by omega) (Nat.le_of_ble_eq_true rfl) rfl rfl rfl ?_
        refine sm_cMember (show _ = nI np from rp) ?_
        refine ev_ifz_eq k169_5 (fun g5 => Bool.noConfusion (Eq.trans (Eq.symm h5) g5)) (fun g5 => ?_)
        refine ev_ild2 k169_8 ?_
        refine ev_iconst k169_9 ?_
        refine ev_icmp_eq k169_10 (fun g10 => absurd g10 h10) (fun g10 => ?_)
        refine ev_ald0 k169_13 ?_
        refine ev_ild2 k169_14 ?_
        refine ev_cV2i k169_15 cs_239 (by first | assumption | rfl) (by omega) (Nat.le_of_ble_eq_true rfl) rfl rfl rfl ?_
        refine sm_cChair (show _ = nI nc from rc) ?_
        refine ev_ifz_ne k169_18 (fun g18 => Bool.noConfusion (Eq.trans (Eq.symm h18) g18)) (fun g18 => ?_)
        refine ev_ald0 k169_21 ?_
        refine ev_ldc k169_22 ?_
        refine ev_cV2i k169_24 cs_238 (by first | assumption | rfl) (by omega) (Nat.le_of_ble_eq_true rfl) rfl rfl rfl ?_
        refine sm_error (k := 1) (by decide) (by decide) ?_
        refine ev_ri k169_27 rfl ?_
        first | exact ⟨rfl, Inv_e rfl rfl inv⟩ | exact ⟨rfl, inv⟩
/-- CV.tell -/
theorem op_tell {X : Nat × (Nat → Int32)} {d : Nat} {I : mm_I} {P : Int32 → mm_I → Prop} {a : Int32} (inv : Inv I) (hQ : ∀ v J, mm_Ev mm_T0 X (d + 60) 239 0 (mm_ent 239 [.ref 91, .int a]) [] J (mm_pi fun w K => w = v ∧ Inv K) → P v J) : mm_Ev mm_T0 X (d + 60) 112 0 (mm_ent 112 [.ref 0, .int a]) [] I (mm_pi P) := by
  show mm_Ev mm_T0 X (d + 60) 112 0 [.ref 0, .int a] [] I (mm_pi P)
  obtain ⟨nc, np, hs⟩ := inv.1
  obtain ⟨c1, n6, p1, p6, rc, rp, rm, ok, sr, tt⟩ := hsF hs
  have t0 := tCV
  have tm := tM
  have tr := tR
  obtain ⟨l2, wl1, wl2, wl3, wl4, wl5⟩ := hs.2.2.2.2.1.2
  have tH := tH19 hh11
  have tHb := tH20 hh11
  refine ev_ald0 k112_0 ?_
  refine ev_getr k112_1 (by first | assumption | rfl) rfl rfl rfl ?_
  refine ev_getr k112_4 (by first | assumption | rfl) rfl rfl rfl ?_
  refine ev_gfv (j := 2) k112_7 (by first | assumption | rfl) rfl rfl rfl rfl wl3 ?_
  refine ev_bipush k112_10 ?_
  refine ev_icmp_lt k112_12 (fun h12 => ?_) (fun h12 => ?_)
  ·
    have hl20 : l2 < 20 := (nI_ltI (show l2 < 2 ^ 31 by omega) (show 20 < 2 ^ 31 by omega)).mp h12
    refine ev_ald0 k112_22 ?_
    refine ev_getr k112_23 (by first | assumption | rfl) rfl rfl rfl ?_
    refine ev_getr k112_26 (by first | assumption | rfl) rfl rfl rfl ?_
    refine ev_ild1 k112_29 ?_
    refine ev_cV2v k112_30 cs_185 (by first | assumption | rfl) (by omega) (Nat.le_of_ble_eq_true rfl) rfl rfl rfl ?_
    refine sp_add (n := l2) tH tHb (by decide) wl3 wl1 (by decide) ?_
    rw [if_pos hl20, show I (11 + 19) 1 = 32 from wl2, cut32]
    refine ev_ald0 k112_33 ?_
    refine ev_getr k112_34 (by first | assumption | rfl) rfl rfl rfl ?_
    refine ev_getr k112_37 (by first | assumption | rfl) rfl rfl rfl ?_
    refine ev_gfv (j := 2) k112_40 (by first | assumption | rfl) rfl rfl rfl rfl (by simp [mm_up_at] : _ = nI (l2 + 1)) ?_
    refine ev_ri k112_43 rfl ?_
    refine hQ _ _ ?_
    show mm_Ev mm_T0 X (d + 60) 239 0 [.ref 91, .int _] [] _ (mm_pi _)
    refine ev_ald0 k239_0 ?_
    refine ev_getr k239_1 (by first | assumption | rfl) rfl rfl rfl ?_
    refine ev_bipush k239_4 ?_
    refine ev_ialv (j := 6) k239_6 (by first | assumption | rfl) (by omega) rfl (vp_dec rfl) wl4 ?_
    refine ev_bipush k239_7 ?_
    refine ev_icmp_ne k239_9 (fun g9 => ?_) (fun g9 => absurd g9 (fun z => by rw [(nI_eq (show l2 < 2 ^ 31 by omega) (show 20 < 2 ^ 31 by omega)).mp z] at hl20; exact absurd hl20 (by decide)))
    refine ev_ald0 k239_19 ?_
    refine ev_getr k239_20 (by first | assumption | rfl) rfl rfl rfl ?_
    refine ev_bipush k239_23 ?_
    refine ev_ald0 k239_25 ?_
    refine ev_getr k239_26 (by first | assumption | rfl) rfl rfl rfl ?_
    refine ev_bipush k239_29 ?_
    refine ev_ialv (j := 6) k239_31 (by first | assumption | rfl) (by omega) rfl (vp_dec rfl) wl4 ?_
    refine ev_iadd k239_32 ?_
    rw [show (99 : Int32) + nI l2 = nI (99 + l2) from nI_add 99 l2]
    refine ev_ild1 k239_33 ?_
    refine ev_ias (j := (99 + l2)) k239_34 (by first | assumption | rfl) (nI_clamp (by omega)) (vp_in_nI (show 99 + l2 < 321 by omega) (by omega)) ?_
    refine ev_ald0 k239_35 ?_
    refine ev_getr k239_36 (by first | assumption | rfl) rfl rfl rfl ?_
    refine ev_bipush k239_39 ?_
    refine ev_dup2 k239_41 rfl rfl ?_
    refine ev_ialv (j := 6) k239_42 (by first | assumption | rfl) (by omega) rfl (vp_dec rfl) (show _ = nI l2 from by rw [mm_up_at, if_neg (by omega)]; exact wl4) ?_
    refine ev_iconst k239_43 ?_
    refine ev_iadd k239_44 ?_
    rw [nI_1]
    refine ev_ias (j := 6) k239_45 (by first | assumption | rfl) rfl (vp_dec rfl) ?_
    refine ev_ald0 k239_46 ?_
    refine ev_getr k239_47 (by first | assumption | rfl) rfl rfl rfl ?_
    refine ev_bipush k239_50 ?_
    refine ev_ialv (j := 6) k239_52 (by first | assumption | rfl) (by omega) rfl (vp_dec rfl) (show _ = nI (l2 + 1) from by rw [mm_up_at, if_pos (by simp)]) ?_
    refine ev_ri k239_53 rfl ?_
    refine ⟨rfl, Inv_H inv (fun k hk => ?_) (HS_congr (fun k hk _ _ _ => ?_) (fun j hj => ?_) (HS_wait (v := a) hs wl3 hl20))⟩
    · repeat rw [mm_up_ne _ _ _ _ _ (by omega)]
    · funext j
      simp only [cells, mm_up_at]
      rw [if_neg (by omega), if_neg (by omega)]
      by_cases k1 : k = 19
      · subst k1; by_cases jc : j = 2 <;> simp [jc]
      · by_cases k2 : k = 20
        · subst k2; by_cases jc : j = l2 <;> simp [jc]
        · repeat rw [if_neg (by omega)]
    · simp only [mm_up_at, upd]
      by_cases j1 : j = 6
      · subst j1; simp
      · by_cases j2 : j = 99 + l2
        · subst j2; simp [j1]
        · simp [j1, j2]
  ·
    have hl20 : l2 = 20 := by have z : ¬ l2 < 20 := fun z => h12 ((nI_ltI (show l2 < 2 ^ 31 by omega) (show 20 < 2 ^ 31 by omega)).mpr z); omega
    refine ev_ald0 k112_15 ?_
    refine ev_ldc k112_16 ?_
    refine ev_cV2i k112_18 cs_174 (by first | assumption | rfl) (by omega) (Nat.le_of_ble_eq_true rfl) rfl rfl rfl ?_
    refine sp_error (k := 4) (by decide) (by decide) (by decide) ?_
    refine ev_ri k112_21 rfl ?_
    refine hQ _ _ ?_
    show mm_Ev mm_T0 X (d + 60) 239 0 [.ref 91, .int _] [] _ (mm_pi _)
    refine ev_ald0 k239_0 ?_
    refine ev_getr k239_1 (by first | assumption | rfl) rfl rfl rfl ?_
    refine ev_bipush k239_4 ?_
    refine ev_ialv (j := 6) k239_6 (by first | assumption | rfl) (by omega) rfl (vp_dec rfl) wl4 ?_
    refine ev_bipush k239_7 ?_
    refine ev_icmp_ne k239_9 (fun g9 => absurd (by rw [hl20]; rfl) g9) (fun g9 => ?_)
    refine ev_ald0 k239_12 ?_
    refine ev_ldc k239_13 ?_
    refine ev_cV2i k239_15 cs_238 (by first | assumption | rfl) (by omega) (Nat.le_of_ble_eq_true rfl) rfl rfl rfl ?_
    refine sm_error (k := 4) (by decide) (by decide) ?_
    refine ev_ri k239_18 rfl ?_
    first | exact ⟨rfl, Inv_e rfl rfl inv⟩ | exact ⟨rfl, inv⟩
theorem inB_wB {i : Int32} {n : Nat} (hn : n ≤ 1000) : inB i (nI n) = wB 0 (nI n - 1) i := by
  cases h : inB i (nI n) with
  | true =>
    obtain ⟨j, hj, rfl⟩ := inB_nI (by omega) h
    exact (wB_nI hn hj).symm
  | false =>
    cases h2 : wB 0 (nI n - 1) i with
    | false => rfl
    | true =>
      obtain ⟨j, hj, rfl⟩ := wB_in hn h2
      rw [inB_of hj (by omega)] at h
      cases h
theorem t1r : mm_T0[1]? = some (rC 1) := rfl
theorem t2a : mm_T0[2]? = some (aC 40) := rfl
theorem t100 : mm_T0[100]? = some (aC 40) := rfl
theorem sp_hasv {X : Nat × (Nat → Int32)} {d : Nat} {I : mm_I} {P : Int32 → mm_I → Prop} {T : List mm_C} {ra n : Nat} {i : Int32} (hr : T[ra]? = some (rC ra)) (hl : I ra 2 = nI n) (hn : n ≤ 1000) (hQ : P (bI (wB 0 (nI n - 1) i)) I) : mm_Ev T X d 53 0 (mm_ent 53 [.ref ra, .int i]) [] I (mm_pi P) := sp_has hr (by rw [hl, inB_wB hn]; exact hQ)
/-- CV.trace -/
theorem op_trace {X : Nat × (Nat → Int32)} {d : Nat} {I : mm_I} {P : Int32 → mm_I → Prop} {a : Int32} (inv : Inv I) (hQ : ∀ v J, mm_Ev mm_T0 X (d + 60) 228 0 (mm_ent 228 [.ref 91, .int a]) [] J (mm_pi fun w K => w = v ∧ Inv K) → P v J) : mm_Ev mm_T0 X (d + 60) 104 0 (mm_ent 104 [.ref 0, .int a]) [] I (mm_pi P) := by
  show mm_Ev mm_T0 X (d + 60) 104 0 [.ref 0, .int a] [] I (mm_pi P)
  obtain ⟨nc, np, hs⟩ := inv.1
  obtain ⟨c1, n6, p1, p6, rc, rp, rm, ok, sr, tt⟩ := hsF hs
  have t0 := tCV
  have tm := tM
  have tr := tR
  obtain ⟨l3, el1, el2, el3, el4, el5⟩ := inv.2.2.2.1
  have t1r := t1r
  have t1h := t100
  refine ev_ald0 k104_0 ?_
  refine ev_getr k104_1 (by first | assumption | rfl) rfl rfl rfl ?_
  refine ev_ild1 k104_4 ?_
  refine ev_cV2i k104_5 cs_214 (by first | assumption | rfl) (by omega) (Nat.le_of_ble_eq_true rfl) rfl rfl rfl ?_
  refine sp_hasv (n := l3) t1r el3 (by omega) ?_
  refine ev_ifz_eq k104_8 (fun h8 => ?_) (fun h8 => ?_)
  ·
    refine ev_ald0 k104_22 ?_
    refine ev_ldc k104_23 ?_
    refine ev_cV2i k104_25 cs_174 (by first | assumption | rfl) (by omega) (Nat.le_of_ble_eq_true rfl) rfl rfl rfl ?_
    refine sp_error (k := 2) (by decide) (by decide) (by decide) ?_
    refine ev_ri k104_28 rfl ?_
    refine hQ _ _ ?_
    show mm_Ev mm_T0 X (d + 60) 228 0 [.ref 91, .int _] [] _ (mm_pi _)
    refine ev_ild1 k228_0 ?_
    refine ev_iconst k228_1 ?_
    refine ev_ald0 k228_2 ?_
    refine ev_gfv (j := 15) k228_3 (by first | assumption | rfl) rfl rfl rfl rfl el4 ?_
    refine ev_iconst k228_6 ?_
    refine ev_isub k228_7 ?_
    refine ev_cS3i k228_8 cs_224 rfl rfl rfl ?_
    refine sp_in ?_
    refine ev_ifz_eq k228_11 (fun g11 => ?_) (fun g11 => Bool.noConfusion (Eq.trans (Eq.symm h8) g11))
    refine ev_ald0 k228_23 ?_
    refine ev_ldc k228_24 ?_
    refine ev_cV2i k228_26 cs_238 (by first | assumption | rfl) (by omega) (Nat.le_of_ble_eq_true rfl) rfl rfl rfl ?_
    refine sm_error (k := 2) (by decide) (by decide) ?_
    refine ev_ri k228_29 rfl ?_
    first | exact ⟨rfl, Inv_e rfl rfl inv⟩ | exact ⟨rfl, inv⟩
  ·
    refine ev_ald0 k104_11 ?_
    refine ev_getr k104_12 (by first | assumption | rfl) rfl rfl rfl ?_
    refine ev_ild1 k104_15 ?_
    refine ev_cV2i k104_16 cs_215 (by first | assumption | rfl) (by omega) (Nat.le_of_ble_eq_true rfl) rfl rfl rfl ?_
    obtain ⟨j, hj, rfl⟩ := wB_in (n := l3) (by omega) h8
    refine sp_get (n := l3) t1r t2a (by decide) el3 el1 (by decide) ?_
    rw [inB_of hj (by omega), nI_clamp (by omega)]
    refine ev_goto k104_19 ?_
    refine ev_ri k104_28 rfl ?_
    refine hQ _ _ ?_
    show mm_Ev mm_T0 X (d + 60) 228 0 [.ref 91, .int _] [] _ (mm_pi _)
    refine ev_ild1 k228_0 ?_
    refine ev_iconst k228_1 ?_
    refine ev_ald0 k228_2 ?_
    refine ev_gfv (j := 15) k228_3 (by first | assumption | rfl) rfl rfl rfl rfl el4 ?_
    refine ev_iconst k228_6 ?_
    refine ev_isub k228_7 ?_
    refine ev_cS3i k228_8 cs_224 rfl rfl rfl ?_
    refine sp_in ?_
    refine ev_ifz_eq k228_11 (fun g11 => Bool.noConfusion (Eq.trans (Eq.symm h8) g11)) (fun g11 => ?_)
    refine ev_ald0 k228_14 ?_
    refine ev_getr k228_15 (by first | assumption | rfl) rfl rfl rfl ?_
    refine ev_ild1 k228_18 ?_
    refine ev_ialv (j := j) k228_19 (by first | assumption | rfl) (by omega) (nI_clamp (by omega)) (vp_in_nI (show j < 40 by omega) (by omega)) ((el5 j hj).symm) ?_
    refine ev_goto k228_20 ?_
    refine ev_ri k228_29 rfl ?_
    first | exact ⟨rfl, Inv_e rfl rfl inv⟩ | exact ⟨rfl, inv⟩
theorem HS_lens {S : mm_I} {R : Nat → Int32} {nc np : Nat} (H : HS S R nc np) : ∃ l0 l1 l2 l3 : Nat, S 10 2 = nI l0 ∧ S 14 2 = nI l1 ∧ S 17 2 = nI l2 ∧ S 19 2 = nI l3 ∧ l0 ≤ 50 ∧ l1 ≤ 50 ∧ l2 ≤ 50 ∧ l3 ≤ 20 := by
  obtain ⟨⟨l, tl1, tl2, tl3, tl4, tl5⟩, ⟨u, wl1, wl2, wl3, wl4, wl5⟩⟩ := H.2.2.2.2.1
  exact ⟨hL0 S 0, hL1 S 0, l, u, H.2.1.2.2.2.1.1, H.2.1.2.2.2.2.1, tl3, wl3, H.2.1.2.2.2.1.2.1.2.1, H.2.1.2.2.2.2.2.1.2.1, tl1, wl1⟩
theorem sp_copyH {X : Nat × (Nat → Int32)} {d : Nat} {I : mm_I} {hb ob nc np : Nat} {R : Nat → Int32} {P : mm_I → Prop} (hh : hH hb) (ho : hH ob) (hne : hb ≠ ob) (H : HS (cells I ob) R nc np) (h9 : I (hb + 9) 2 = 0 ∧ I (hb + 9) 3 = 99 ∧ I (hb + 13) 2 = -99 ∧ I (hb + 13) 3 = 99) (hQ : ∀ J, HS (cells J hb) R nc np → (∀ k, (k < hb ∨ hb + 20 < k) → J k = I k) → J (hb + 9) = I (hb + 9) → J (hb + 13) = I (hb + 13) → P J) : mm_Ev mm_T0 X (d + 1) 20 0 (mm_ent 20 [.ref hb, .ref ob]) [] I (mm_pv P) := by
  obtain ⟨l0, l1, l2, l3, e0, e1, e2, e3, h0, h1, h2, h3⟩ := HS_lens H
  exact sp_hCopy hh ho hne e0 e1 e2 e3 h0 h1 h2 h3 (fun J hJ => hQ J (HS_cy hJ h9 H) hJ.1 hJ.2.2.2.2.2.2.2.1 hJ.2.2.2.2.2.2.2.2)
theorem cpA_ne {I : mm_I} {a b i k : Nat} (h : k ≠ b) : cpA I a b i k = I k := mm_rp_ne _ _ _ h
theorem cpA_at {I : mm_I} {a b i j : Nat} (h : j < i) : cpA I a b i b j = I a j := by
  unfold cpA
  rw [mm_rp_at, if_pos h]
/-- CV.image -/
theorem op_image {X : Nat × (Nat → Int32)} {d : Nat} {I : mm_I} {P : Int32 → mm_I → Prop}  (inv : Inv I) (hQ : ∀ v J, mm_Ev mm_T0 X (d + 60) 237 0 (mm_ent 237 [.ref 91]) [] J (mm_pi fun w K => w = v ∧ Inv K) → P v J) : mm_Ev mm_T0 X (d + 60) 110 0 (mm_ent 110 [.ref 0]) [] I (mm_pi P) := by
  show mm_Ev mm_T0 X (d + 60) 110 0 [.ref 0] [] I (mm_pi P)
  obtain ⟨nc, np, hs⟩ := inv.1
  obtain ⟨c1, n6, p1, p6, rc, rp, rm, ok, sr, tt⟩ := hsF hs
  have t0 := tCV
  have tm := tM
  have tr := tR
  refine ev_ald0 k110_0 ?_
  refine ev_getr k110_1 (by first | assumption | rfl) rfl rfl rfl ?_
  refine ev_ald0 k110_4 ?_
  refine ev_getr k110_5 (by first | assumption | rfl) rfl rfl rfl ?_
  refine ev_cV2v k110_8 cs_201 (by first | assumption | rfl) (by omega) (Nat.le_of_ble_eq_true rfl) rfl rfl rfl ?_
  refine sp_copyH hh53 hh11 (by decide) hs inv.2.2.2.2.2.2.2.2 (fun J HJ fJ f9 f13 => ?_)
  refine ev_ald0 k110_11 ?_
  refine ev_dup k110_12 rfl ?_
  refine ev_gf (j := 9) k110_13 (by first | assumption | rfl) rfl rfl rfl rfl ?_
  refine ev_iconst k110_16 ?_
  refine ev_iadd k110_17 ?_
  refine ev_pf (j := 9) k110_18 (by first | assumption | rfl) rfl rfl rfl ?_
  refine ev_ald0 k110_21 ?_
  refine ev_gf (j := 9) k110_22 (by first | assumption | rfl) rfl rfl rfl rfl ?_
  refine ev_ri k110_25 rfl ?_
  refine hQ _ _ ?_
  show mm_Ev mm_T0 X (d + 60) 237 0 [.ref 91] [] _ (mm_pi _)
  refine ev_ald0 k237_0 ?_
  refine ev_getr k237_1 (by first | assumption | rfl) rfl rfl rfl ?_
  refine ev_ald0 k237_4 ?_
  refine ev_getr k237_5 (by first | assumption | rfl) rfl rfl rfl ?_
  refine ev_cS2v k237_8 cs_268 rfl rfl rfl ?_
  refine sm_copyAll tR tR2 (by decide) (by decide) ?_
  refine ev_ald0 k237_11 ?_
  refine ev_dup k237_12 rfl ?_
  refine ev_gf (j := 3) k237_13 (by first | assumption | rfl) rfl rfl rfl rfl ?_
  refine ev_iconst k237_16 ?_
  refine ev_iadd k237_17 ?_
  refine ev_pf (j := 3) k237_18 (by first | assumption | rfl) rfl rfl rfl ?_
  refine ev_ald0 k237_21 ?_
  refine ev_gf (j := 3) k237_22 (by first | assumption | rfl) rfl rfl rfl rfl ?_
  refine ev_ri k237_25 rfl ?_
  have e0 : J 0 9 = J 91 3 := by rw [fJ 0 (by omega), fJ 91 (by omega)]; exact inv.2.1.1
  refine ⟨?_, ?_⟩
  · show mm_up (cpA _ 92 93 321) 91 3 _ 91 3 = mm_up J 0 9 _ 0 9
    rw [mm_up_at, if_pos ⟨rfl, rfl⟩, mm_up_at, if_pos ⟨rfl, rfl⟩, cpA_ne (by decide), mm_up_ne _ _ _ _ _ (by decide), e0]
  · generalize hL : mm_up (cpA (mm_up J 0 9 (J 0 9 + 1)) 92 93 321) 91 3 _ = L
    have g1 : ∀ k, k ≠ 0 → k ≠ 91 → k ≠ 93 → L k = J k := fun k a b c => by rw [← hL, mm_up_ne _ _ _ _ _ b, cpA_ne c, mm_up_ne _ _ _ _ _ a]
    have g2 : L 0 9 = L 91 3 := by
      rw [← hL, mm_up_ne _ _ _ _ _ (by decide), cpA_ne (by decide), mm_up_at, if_pos ⟨rfl, rfl⟩, mm_up_at, if_pos ⟨rfl, rfl⟩, cpA_ne (by decide), mm_up_ne _ _ _ _ _ (by decide), e0]
    have g3 : ∀ j, j < 321 → L 93 j = J 92 j := fun j hj => by rw [← hL, mm_up_ne _ _ _ _ _ (by decide), cpA_at hj, mm_up_ne _ _ _ _ _ (by decide)]
    have g4 : ∀ j, j ≠ 3 → L 91 j = J 91 j := fun j hj => by rw [← hL, mm_up_at, if_neg (fun z => hj z.2), cpA_ne (by decide), mm_up_ne _ _ _ _ _ (by decide)]
    clear hL
    refine ⟨⟨nc, np, HS_congr (fun k hk _ _ _ => (g1 _ (by omega) (by omega) (by omega)).trans (fJ _ (by omega))) (fun j _ => by rw [g1 92 (by decide) (by decide) (by decide), fJ 92 (by omega)]) hs⟩, ⟨g2, Or.inr ⟨nc, np, HS_congr (fun k hk _ _ _ => g1 _ (by omega) (by omega) (by omega)) (fun j hj => by rw [g3 j hj, fJ 92 (by omega)]) HJ⟩⟩, ?_, ?_, ?_, ?_⟩
    · unfold erR
      rw [g1 90 (by decide) (by decide) (by decide), g1 95 (by decide) (by decide) (by decide), fJ 90 (by omega), fJ 95 (by omega)]
      exact inv.2.2.1
    · unfold trR
      rw [g1 1 (by decide) (by decide) (by decide), g1 2 (by decide) (by decide) (by decide), g1 100 (by decide) (by decide) (by decide), g4 15 (by decide), fJ 1 (by omega), fJ 2 (by omega), fJ 100 (by omega), fJ 91 (by omega)]
      exact inv.2.2.2.1
    · intro s hs4
      rw [g1 (80 + 2 * s) (by omega) (by omega) (by omega), g1 (81 + 2 * s) (by omega) (by omega) (by omega), g1 101 (by omega) (by omega) (by omega), g1 102 (by omega) (by omega) (by omega), g1 103 (by omega) (by omega) (by omega), fJ (80 + 2 * s) (by omega), fJ (81 + 2 * s) (by omega), fJ 101 (by omega), fJ 102 (by omega), fJ 103 (by omega)]
      exact inv.2.2.2.2.1 s hs4
    · unfold csR
      rw [g1 75 (by decide) (by decide) (by decide), g1 88 (by decide) (by decide) (by decide), g1 (32 + 9) (by decide) (by decide) (by decide), g1 (32 + 13) (by decide) (by decide) (by decide), g1 (53 + 9) (by decide) (by decide) (by decide), g1 (53 + 13) (by decide) (by decide) (by decide), fJ 75 (by omega), fJ 88 (by omega), fJ (32 + 9) (by omega), fJ (32 + 13) (by omega), f9, f13]
      exact inv.2.2.2.2.2
/-- CV.restore -/
theorem op_restore {X : Nat × (Nat → Int32)} {d : Nat} {I : mm_I} {P : Int32 → mm_I → Prop}  (inv : Inv I) (hQ : ∀ v J, mm_Ev mm_T0 X (d + 60) 238 0 (mm_ent 238 [.ref 91]) [] J (mm_pi fun w K => w = v ∧ Inv K) → P v J) : mm_Ev mm_T0 X (d + 60) 111 0 (mm_ent 111 [.ref 0]) [] I (mm_pi P) := by
  show mm_Ev mm_T0 X (d + 60) 111 0 [.ref 0] [] I (mm_pi P)
  obtain ⟨nc, np, hs⟩ := inv.1
  obtain ⟨c1, n6, p1, p6, rc, rp, rm, ok, sr, tt⟩ := hsF hs
  have t0 := tCV
  have tm := tM
  have tr := tR
  refine ev_ald0 k111_0 ?_
  refine ev_gf (j := 9) k111_1 (by first | assumption | rfl) rfl rfl rfl rfl ?_
  refine ev_if_ne k111_4 (fun h4 => ?_) (fun h4 => ?_)
  ·
    obtain ⟨nc2, np2, HK⟩ := inv.2.1.2.resolve_left h4
    refine ev_ald0 k111_14 ?_
    refine ev_getr k111_15 (by first | assumption | rfl) rfl rfl rfl ?_
    refine ev_ald0 k111_18 ?_
    refine ev_getr k111_19 (by first | assumption | rfl) rfl rfl rfl ?_
    refine ev_cV2v k111_22 cs_201 (by first | assumption | rfl) (by omega) (Nat.le_of_ble_eq_true rfl) rfl rfl rfl ?_
    refine sp_copyH hh11 hh53 (by decide) HK ⟨ok.2.2.2.1.2.2.1, ok.2.2.2.1.2.2.2, ok.2.2.2.2.2.2.1, ok.2.2.2.2.2.2.2⟩ (fun J HJ fJ f9 f13 => ?_)
    refine ev_ald0 k111_25 ?_
    refine ev_getr k111_26 (by first | assumption | rfl) rfl rfl rfl ?_
    refine ev_gf (j := 16) k111_29 (by first | assumption | rfl) rfl rfl rfl rfl ?_
    refine ev_ri k111_32 rfl ?_
    refine hQ _ _ ?_
    show mm_Ev mm_T0 X (d + 60) 238 0 [.ref 91] [] _ (mm_pi _)
    refine ev_ald0 k238_0 ?_
    refine ev_gf (j := 3) k238_1 (by first | assumption | rfl) rfl rfl rfl rfl ?_
    refine ev_if_ne k238_4 (fun g4 => ?_) (fun g4 => absurd (g4 : _ = (0 : Int32)) (by rw [fJ 91 (by omega), ← inv.2.1.1]; exact h4))
    refine ev_ald0 k238_14 ?_
    refine ev_getr k238_15 (by first | assumption | rfl) rfl rfl rfl ?_
    refine ev_ald0 k238_18 ?_
    refine ev_getr k238_19 (by first | assumption | rfl) rfl rfl rfl ?_
    refine ev_cS2v k238_22 cs_268 rfl rfl rfl ?_
    refine sm_copyAll tR2 tR (by decide) (by decide) ?_
    refine ev_ald0 k238_25 ?_
    refine ev_getr k238_26 (by first | assumption | rfl) rfl rfl rfl ?_
    refine ev_iconst k238_29 ?_
    refine ev_ial (j := 0) k238_30 (by first | assumption | rfl) (by omega) rfl (vp_dec rfl) ?_
    refine ev_ri k238_31 rfl ?_
    refine ⟨?_, Inv_H inv (fun k hk => (cpA_ne (by omega)).trans (fJ k (by omega))) (HS_congr (fun k hk _ _ _ => cpA_ne (by omega)) (fun j hj => by rw [cpA_at hj, fJ 93 (by omega)]) HJ)⟩
    rw [cpA_at (by decide), fJ 93 (by omega)]
    exact HJ.1.2.2.2.1
  ·
    refine ev_ald0 k111_7 ?_
    refine ev_ldc k111_8 ?_
    refine ev_cV2i k111_10 cs_174 (by first | assumption | rfl) (by omega) (Nat.le_of_ble_eq_true rfl) rfl rfl rfl ?_
    refine sp_error (k := 2) (by decide) (by decide) (by decide) ?_
    refine ev_ri k111_13 rfl ?_
    refine hQ _ _ ?_
    show mm_Ev mm_T0 X (d + 60) 238 0 [.ref 91] [] _ (mm_pi _)
    refine ev_ald0 k238_0 ?_
    refine ev_gf (j := 3) k238_1 (by first | assumption | rfl) rfl rfl rfl rfl ?_
    refine ev_if_ne k238_4 (fun g4 => absurd (show _ = (0 : Int32) from inv.2.1.1.symm.trans h4) g4) (fun g4 => ?_)
    refine ev_ald0 k238_7 ?_
    refine ev_ldc k238_8 ?_
    refine ev_cV2i k238_10 cs_238 (by first | assumption | rfl) (by omega) (Nat.le_of_ble_eq_true rfl) rfl rfl rfl ?_
    refine sm_error (k := 2) (by decide) (by decide) ?_
    refine ev_ri k238_13 rfl ?_
    first | exact ⟨rfl, Inv_e rfl rfl inv⟩ | exact ⟨rfl, inv⟩
