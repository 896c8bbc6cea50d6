/-! What is only thought -/
theorem fnd_some {f : Nat → Bool} : ∀ {n i m : Nat}, fnd f n i = some m → i ≤ m ∧ m < i + n ∧ f m = true := by
  intro n
  induction n with
  | zero => intro i m h; cases h
  | succ n ih =>
    intro i m h
    unfold fnd at h
    by_cases z : f i = true
    · rw [if_pos z] at h
      cases h
      exact ⟨Nat.le_refl _, by omega, z⟩
    · rw [if_neg z] at h
      obtain ⟨a, b, c⟩ := ih h
      exact ⟨by omega, by omega, c⟩
def tF (I K : mm_I) : Prop := (∀ k, (k < 32 ∨ 52 < k) → K k = I k) ∧ K 41 = I 41 ∧ K 45 = I 45
theorem Inv_th {I K L : mm_I} (inv : Inv I) (h : tF I K) (hL : ∀ k, k ≠ 92 → k ≠ 94 → k ≠ 98 → k ≠ 99 → L k = K k) (h92 : ∀ j, j < 321 → L 92 j = K 92 j) : Inv L := by
  refine Inv_0 inv (fun k hk => ?_) (fun k hk a b c => ?_) (fun j hj => ?_)
  · rw [hL k (by omega) (by omega) (by omega) (by omega)]
    by_cases e : k = 41
    · rw [e]; exact h.2.1
    · by_cases e2 : k = 45
      · rw [e2]; exact h.2.2
      · exact h.1 k (by omega)
  · rw [hL _ (by omega) (by omega) (by omega) (by omega)]; exact h.1 _ (by omega)
  · rw [h92 j hj, h.1 92 (by omega)]
theorem th_bk {K L : mm_I} (fL : ∀ k, k ≠ 92 → k ≠ 98 → k ≠ 99 → L k = cpA K 92 94 321 k) : (∀ k, k ≠ 92 → k ≠ 94 → k ≠ 98 → k ≠ 99 → cpA L 94 92 321 k = K k) ∧ ∀ j, j < 321 → cpA L 94 92 321 92 j = K 92 j :=
  ⟨fun k a b c e => by rw [cpA_ne a, fL k a c e, cpA_ne b], fun j hj => by rw [cpA_at hj, fL 94 (by decide) (by decide) (by decide), cpA_at hj]⟩
theorem Inv_tb {I K L : mm_I} (inv : Inv I) (h : tF I K) (fL : ∀ k, k ≠ 92 → k ≠ 98 → k ≠ 99 → L k = cpA K 92 94 321 k) : Inv (cpA L 94 92 321) := Inv_th inv h (th_bk fL).1 (th_bk fL).2
theorem Inv_te {I K M : mm_I} {k : Nat} (inv : Inv I) (h : tF I K) (hM : ∀ k', k' ≠ 92 → k' ≠ 94 → k' ≠ 98 → k' ≠ 99 → M k' = mm_up K 90 k (K 90 k + 1) k') (h92 : ∀ j, j < 321 → M 92 j = K 92 j) : Inv (mm_up M 95 k (M 95 k + 1)) := by
  have i2 : Inv (mm_rp M 90 (K 90)) := Inv_th inv h (fun k' a b c e => by
    by_cases z : k' = 90
    · rw [z, mm_rp_at]
    · rw [mm_rp_ne _ _ _ z, hM k' a b c e, mm_up_ne _ _ _ _ _ z]) (fun j hj => by rw [mm_rp_ne _ _ _ (by decide)]; exact h92 j hj)
  have e1 : mm_up (mm_rp M 90 (K 90)) 90 k (K 90 k + 1) = M := by
    funext k'
    by_cases z : k' = 90
    · rw [z, hM 90 (by decide) (by decide) (by decide) (by decide)]
      funext j
      rw [mm_up_at, mm_up_at, mm_rp_at]
    · rw [mm_up_ne _ _ _ _ _ z, mm_rp_ne _ _ _ z]
  have q := Inv_e (I := mm_rp M 90 (K 90)) (k := k) (x := K 90 k + 1) (y := M 95 k + 1) (by rw [mm_rp_at]) (by rw [mm_rp_ne _ _ _ (by decide)]) i2
  rw [e1] at q
  exact q
theorem sN_ne {S : mm_I} {nc np k : Nat} (h0 : k ≠ 0) (h8 : k ≠ 8) (h4 : k ≠ 4) (hk : k ≤ 20 ∧ k ≠ 5 ∧ k ≠ 12 ∧ k ≠ 16) : sN S nc np k = S k := by
  unfold sN
  rw [nz_at hk.1 hk.2.1 hk.2.2.1 hk.2.2.2, sit_ne h0 h8 h4]
theorem itS_ne {N : mm_I} {nc np k : Nat} (h0 : k ≠ 0) (h8 : k ≠ 8) (h4 : k ≠ 4) (hk : k ≤ 20 ∧ k ≠ 5 ∧ k ≠ 12 ∧ k ≠ 16) : ∀ n, itS N nc np n k = N k
  | 0 => rfl
  | n + 1 => (sN_ne h0 h8 h4 hk).trans (itS_ne h0 h8 h4 hk n)
theorem tF_it {I J K : mm_I} {nc np n : Nat} (h : tF I J) (e : nz (cells K 32) = itS (nz (cells J 32)) nc np n) (f : ∀ k, (k < 32 ∨ 52 < k) → K k = J k) : tF I K := by
  refine ⟨fun k hk => (f k hk).trans (h.1 k hk), ?_, ?_⟩
  · have z := congrFun e 9
    rw [itS_ne (by decide) (by decide) (by decide) (by decide)] at z
    exact (show K 41 = J 41 from z).trans h.2.1
  · have z := congrFun e 13
    rw [itS_ne (by decide) (by decide) (by decide) (by decide)] at z
    exact (show K 45 = J 45 from z).trans h.2.2
theorem lp_then {X : Nat × (Nat → Int32)} {d : Nat} {J0 N : mm_I} {nc np M : Nat} {b : Int32} {P : Int32 → mm_I → Prop} (wf : wfS N nc np) (hM : M ≤ 60) (hQ : ∀ K, nz (cells K 32) = itS N nc np M → (∀ k, (k < 32 ∨ 52 < k) → K k = J0 k) → mm_Ev mm_T0 X (d + 20) 93 61 [.ref 0, .int (nI M), .int b, .int (nI M)] [] K (mm_pi P)) : ∀ (n i : Nat) (J : mm_I), i + n = M → nz (cells J 32) = itS N nc np i → (∀ k, (k < 32 ∨ 52 < k) → J k = J0 k) → mm_Ev mm_T0 X (d + 20) 93 43 [.ref 0, .int (nI M), .int b, .int (nI i)] [] J (mm_pi P) := by
  have t0 := tCV
  intro n
  induction n with
  | zero =>
    intro i J hi eJ fJ
    have e : i = M := by omega
    subst e
    refine ev_ild3 k93_43 ?_
    refine ev_ild1 k93_44 ?_
    refine ev_jcmp_ge k93_45 (fun h45 => ?_) (fun h45 => absurd h45 (nI_nlt (Nat.le_refl _) (by omega)))
    exact hQ J eJ fJ
  | succ n ih =>
    intro i J hi eJ fJ
    have hlt : i < M := by omega
    refine ev_ild3 k93_43 ?_
    refine ev_ild1 k93_44 ?_
    refine ev_jcmp_ge k93_45 (fun h45 => absurd (nI_lt hlt (by omega)) h45) (fun h45 => ?_)
    refine ev_ald0 k93_48 ?_
    refine ev_getr k93_49 (by first | assumption | rfl) rfl rfl rfl ?_
    refine ev_cV1v k93_52 cs_199 (by first | assumption | rfl) (by omega) (Nat.le_of_ble_eq_true rfl) rfl rfl rfl ?_
    refine sp_sitC hh32 eJ (wf_it wf i) (fun K eK fK => ?_)
    refine ev_inc3 k93_55 rfl ?_
    refine ev_goto k93_58 ?_
    rw [nI_1]
    exact ih (i + 1) K (by omega) eK (fun k hk => (fK k hk).trans (fJ k hk))
/-- CV.then -/
theorem op_then {X : Nat × (Nat → Int32)} {d : Nat} {I : mm_I} {P : Int32 → mm_I → Prop} {a : Int32} {b : Int32} (inv : Inv I) (hQ : ∀ v J, mm_Ev mm_T0 X (d + 60) 201 0 (mm_ent 201 [.ref 91, .int a, .int b]) [] J (mm_pi fun w K => w = v ∧ Inv K) → P v J) : mm_Ev mm_T0 X (d + 60) 93 0 (mm_ent 93 [.ref 0, .int a, .int b]) [] I (mm_pi P) := by
  show mm_Ev mm_T0 X (d + 60) 93 0 [.ref 0, .int a, .int b, .retAddr 0] [] I (mm_pi P)
  obtain ⟨nc, np, hs⟩ := inv.1
  obtain ⟨c1, n6, p1, p6, rc, rp, rm, ok, sr, tt⟩ := hsF hs
  have t0 := tCV
  have tm := tM
  have tr := tR
  refine ev_ild1 k93_0 ?_
  refine ev_iconst k93_1 ?_
  refine ev_bipush k93_2 ?_
  refine ev_cS3i k93_4 cs_179 rfl rfl rfl ?_
  refine sp_isWithin ?_
  refine ev_ifz_eq k93_7 (fun h7 => ?_) (fun h7 => ?_)
  ·
    refine ev_ald0 k93_23 ?_
    refine ev_ldc k93_24 ?_
    refine ev_cV2i k93_26 cs_174 (by first | assumption | rfl) (by omega) (Nat.le_of_ble_eq_true rfl) rfl rfl rfl ?_
    refine sp_error (k := 1) (by decide) (by decide) (by decide) ?_
    refine ev_ri k93_29 rfl ?_
    refine hQ _ _ ?_
    show mm_Ev mm_T0 X (d + 60) 201 0 [.ref 91, .int _, .int _, .retAddr 0] [] _ (mm_pi _)
    refine ev_ild1 k201_0 ?_
    refine ev_iconst k201_1 ?_
    refine ev_bipush k201_2 ?_
    refine ev_cS3i k201_4 cs_224 rfl rfl rfl ?_
    refine sp_in ?_
    refine ev_ifz_eq k201_7 (fun g7 => ?_) (fun g7 => Bool.noConfusion (Eq.trans (Eq.symm h7) g7))
    refine ev_ald0 k201_23 ?_
    refine ev_ldc k201_24 ?_
    refine ev_cV2i k201_26 cs_238 (by first | assumption | rfl) (by omega) (Nat.le_of_ble_eq_true rfl) rfl rfl rfl ?_
    refine sm_error (k := 1) (by decide) (by decide) ?_
    refine ev_ri k201_29 rfl ?_
    first | exact ⟨rfl, Inv_e rfl rfl inv⟩ | exact ⟨rfl, inv⟩
  ·
    obtain ⟨M, hM, rfl⟩ := wB_le (hi := 60) (by omega) h7
    refine ev_ild2 k93_10 ?_
    refine ev_iconst k93_11 ?_
    refine ev_icmp_eq k93_12 (fun h12 => ?_) (fun h12 => ?_)
    ·
      subst h12
      refine ev_ald0 k93_30 ?_
      refine ev_getr k93_31 (by first | assumption | rfl) rfl rfl rfl ?_
      refine ev_ald0 k93_34 ?_
      refine ev_getr k93_35 (by first | assumption | rfl) rfl rfl rfl ?_
      refine ev_cV2v k93_38 cs_201 (by first | assumption | rfl) (by omega) (Nat.le_of_ble_eq_true rfl) rfl rfl rfl ?_
      refine sp_copyH hh32 hh11 (by decide) hs inv.2.2.2.2.2.2.2.1 (fun J HJ fJ f9 f13 => ?_)
      have tJ : tF I J := ⟨fJ, f9, f13⟩
      have wfJ := wf_nz (HS_wf HJ)
      refine ev_iconst k93_41 ?_
      refine ev_ist3 k93_42 rfl ?_
      refine lp_then (J0 := J) (N := nz (cells J 32)) (nc := nc) (np := np) wfJ hM (fun K eK fK => ?_) M 0 J (by omega) rfl (fun _ _ => rfl)
      have tK := tF_it tJ eK fK
      refine ev_ild2 k93_61 ?_
      refine ev_iconst k93_62 ?_
      refine ev_icmp_ne k93_63 (fun h63 => absurd rfl h63) (fun h63 => ?_)
      refine ev_ald0 k93_66 ?_
      refine ev_getr k93_67 (by first | assumption | rfl) rfl rfl rfl ?_
      refine ev_gfv (j := 15) k93_70 (by first | assumption | rfl) rfl rfl rfl rfl (show K 32 15 = itS (nz (cells J 32)) nc np M 0 15 from congrFun (congrFun eK 0) 15) ?_
      refine ev_goto k93_73 ?_
      refine ev_ri k93_85 rfl ?_
      refine hQ _ _ ?_
      show mm_Ev mm_T0 X (d + 60) 201 0 [.ref 91, .int _, .int _, .retAddr 0] [] _ (mm_pi _)
      refine ev_ild1 k201_0 ?_
      refine ev_iconst k201_1 ?_
      refine ev_bipush k201_2 ?_
      refine ev_cS3i k201_4 cs_224 rfl rfl rfl ?_
      refine sp_in ?_
      refine ev_ifz_eq k201_7 (fun g7 => Bool.noConfusion (Eq.trans (Eq.symm h7) g7)) (fun g7 => ?_)
      refine ev_ild2 k201_10 ?_
      refine ev_iconst k201_11 ?_
      refine ev_icmp_eq k201_12 (fun g12 => ?_) (fun g12 => absurd rfl g12)
      refine ev_ald0 k201_30 ?_
      refine ev_cV1v k201_31 cs_269 (by first | assumption | rfl) (by omega) (Nat.le_of_ble_eq_true rfl) rfl rfl rfl ?_
      refine sm_thinks ?_
      refine ev_ald0 k201_34 ?_
      refine ev_ild1 k201_35 ?_
      refine ev_cV2v k201_36 cs_266 (by first | assumption | rfl) (by omega) (Nat.le_of_ble_eq_true rfl) rfl rfl rfl ?_
      refine sm_goesOn (N := nz (cells J 32)) (nc := nc) (np := np) hM (show HS _ (cpA K 92 94 321 92) nc np from by rw [cpA_ne (by decide), tK.1 92 (by omega)]; exact HS_nz HJ) (fun L HL fL => ?_)
      refine ev_ild2 k201_39 ?_
      refine ev_jf_ge k201_40 (fun g40 => absurd (by decide) g40) (fun g40 => ?_)
      refine ev_ald0 k201_43 ?_
      refine ev_getr k201_44 (by first | assumption | rfl) rfl rfl rfl ?_
      refine ev_iconst k201_47 ?_
      refine ev_ialv (j := 4) k201_48 (by first | assumption | rfl) (by omega) rfl (vp_dec rfl) HL.1.2.2.2.2.2 ?_
      refine ev_goto k201_49 ?_
      refine ev_ist3 k201_58 rfl ?_
      refine ev_ald0 k201_59 ?_
      refine ev_cV1v k201_60 cs_270 (by first | assumption | rfl) (by omega) (Nat.le_of_ble_eq_true rfl) rfl rfl rfl ?_
      refine sm_putsBack ?_
      refine ev_ild3 k201_63 ?_
      refine ev_ri k201_64 rfl ?_
      exact ⟨rfl, Inv_tb inv tK fL⟩
    ·
      refine ev_ald0 k93_15 ?_
      refine ev_ild2 k93_16 ?_
      refine ev_cV2i k93_17 cs_183 (by first | assumption | rfl) (by omega) (Nat.le_of_ble_eq_true rfl) rfl rfl rfl ?_
      refine sp_cMember p1 ?_
      refine ev_ifz_ne k93_20 (fun h20 => ?_) (fun h20 => ?_)
      ·
        obtain ⟨p, hp, rfl⟩ := wB_in (n := np) (by omega) h20
        refine ev_ald0 k93_30 ?_
        refine ev_getr k93_31 (by first | assumption | rfl) rfl rfl rfl ?_
        refine ev_ald0 k93_34 ?_
        refine ev_getr k93_35 (by first | assumption | rfl) rfl rfl rfl ?_
        refine ev_cV2v k93_38 cs_201 (by first | assumption | rfl) (by omega) (Nat.le_of_ble_eq_true rfl) rfl rfl rfl ?_
        refine sp_copyH hh32 hh11 (by decide) hs inv.2.2.2.2.2.2.2.1 (fun J HJ fJ f9 f13 => ?_)
        have tJ : tF I J := ⟨fJ, f9, f13⟩
        have wfJ := wf_nz (HS_wf HJ)
        refine ev_iconst k93_41 ?_
        refine ev_ist3 k93_42 rfl ?_
        refine lp_then (J0 := J) (N := nz (cells J 32)) (nc := nc) (np := np) wfJ hM (fun K eK fK => ?_) M 0 J (by omega) rfl (fun _ _ => rfl)
        have tK := tF_it tJ eK fK
        refine ev_ild2 k93_61 ?_
        refine ev_iconst k93_62 ?_
        refine ev_icmp_ne k93_63 (fun h63 => ?_) (fun h63 => absurd h63 h12)
        refine ev_ald0 k93_76 ?_
        refine ev_getr k93_77 (by first | assumption | rfl) rfl rfl rfl ?_
        refine ev_getr k93_80 (by first | assumption | rfl) rfl rfl rfl ?_
        refine ev_ild2 k93_83 ?_
        refine ev_ialv (j := p) k93_84 (by first | assumption | rfl) (by omega) (nI_clamp (by omega)) (vp_in_nI (show p < 6 by omega) (by omega)) (show K 40 p = itS (nz (cells J 32)) nc np M 8 p from congrFun (congrFun eK 8) p) ?_
        refine ev_ri k93_85 rfl ?_
        refine hQ _ _ ?_
        show mm_Ev mm_T0 X (d + 60) 201 0 [.ref 91, .int _, .int _, .retAddr 0] [] _ (mm_pi _)
        refine ev_ild1 k201_0 ?_
        refine ev_iconst k201_1 ?_
        refine ev_bipush k201_2 ?_
        refine ev_cS3i k201_4 cs_224 rfl rfl rfl ?_
        refine sp_in ?_
        refine ev_ifz_eq k201_7 (fun g7 => Bool.noConfusion (Eq.trans (Eq.symm h7) g7)) (fun g7 => ?_)
        refine ev_ild2 k201_10 ?_
        refine ev_iconst k201_11 ?_
        refine ev_icmp_eq k201_12 (fun g12 => absurd g12 h12) (fun g12 => ?_)
        refine ev_ald0 k201_15 ?_
        refine ev_ild2 k201_16 ?_
        refine ev_cV2i k201_17 cs_245 (by first | assumption | rfl) (by omega) (Nat.le_of_ble_eq_true rfl) rfl rfl rfl ?_
        refine sm_cMember (show _ = nI np from (congrFun (tK.1 92 (by omega)) 3).trans rp) ?_
        refine ev_ifz_ne k201_20 (fun g20 => ?_) (fun g20 => Bool.noConfusion (Eq.trans (Eq.symm h20) g20))
        refine ev_ald0 k201_30 ?_
        refine ev_cV1v k201_31 cs_269 (by first | assumption | rfl) (by omega) (Nat.le_of_ble_eq_true rfl) rfl rfl rfl ?_
        refine sm_thinks ?_
        refine ev_ald0 k201_34 ?_
        refine ev_ild1 k201_35 ?_
        refine ev_cV2v k201_36 cs_266 (by first | assumption | rfl) (by omega) (Nat.le_of_ble_eq_true rfl) rfl rfl rfl ?_
        refine sm_goesOn (N := nz (cells J 32)) (nc := nc) (np := np) hM (show HS _ (cpA K 92 94 321 92) nc np from by rw [cpA_ne (by decide), tK.1 92 (by omega)]; exact HS_nz HJ) (fun L HL fL => ?_)
        refine ev_ild2 k201_39 ?_
        refine ev_jf_ge k201_40 (fun g40 => ?_) (fun g40 => absurd g40 (nI_pos (by omega)))
        refine ev_ald0 k201_52 ?_
        refine ev_ild2 k201_53 ?_
        refine ev_iconst k201_54 ?_
        refine ev_cV3i k201_55 cs_225 (by first | assumption | rfl) (by omega) (Nat.le_of_ble_eq_true rfl) rfl rfl rfl ?_
        refine sm_aboutv (w := 2) (show p < 6 by omega) (by decide) (HL.1.2.2.1 p hp).2.2 ?_
        refine ev_ist3 k201_58 rfl ?_
        refine ev_ald0 k201_59 ?_
        refine ev_cV1v k201_60 cs_270 (by first | assumption | rfl) (by omega) (Nat.le_of_ble_eq_true rfl) rfl rfl rfl ?_
        refine sm_putsBack ?_
        refine ev_ild3 k201_63 ?_
        refine ev_ri k201_64 rfl ?_
        exact ⟨rfl, Inv_tb inv tK fL⟩
      ·
        refine ev_ald0 k93_23 ?_
        refine ev_ldc k93_24 ?_
        refine ev_cV2i k93_26 cs_174 (by first | assumption | rfl) (by omega) (Nat.le_of_ble_eq_true rfl) rfl rfl rfl ?_
        refine sp_error (k := 1) (by decide) (by decide) (by decide) ?_
        refine ev_ri k93_29 rfl ?_
        refine hQ _ _ ?_
        show mm_Ev mm_T0 X (d + 60) 201 0 [.ref 91, .int _, .int _, .retAddr 0] [] _ (mm_pi _)
        refine ev_ild1 k201_0 ?_
        refine ev_iconst k201_1 ?_
        refine ev_bipush k201_2 ?_
        refine ev_cS3i k201_4 cs_224 rfl rfl rfl ?_
        refine sp_in ?_
        refine ev_ifz_eq k201_7 (fun g7 => Bool.noConfusion (Eq.trans (Eq.symm h7) g7)) (fun g7 => ?_)
        refine ev_ild2 k201_10 ?_
        refine ev_iconst k201_11 ?_
        refine ev_icmp_eq k201_12 (fun g12 => absurd g12 h12) (fun g12 => ?_)
        refine ev_ald0 k201_15 ?_
        refine ev_ild2 k201_16 ?_
        refine ev_cV2i k201_17 cs_245 (by first | assumption | rfl) (by omega) (Nat.le_of_ble_eq_true rfl) rfl rfl rfl ?_
        refine sm_cMember (show _ = nI np from rp) ?_
        refine ev_ifz_ne k201_20 (fun g20 => Bool.noConfusion (Eq.trans (Eq.symm h20) g20)) (fun g20 => ?_)
        refine ev_ald0 k201_23 ?_
        refine ev_ldc k201_24 ?_
        refine ev_cV2i k201_26 cs_238 (by first | assumption | rfl) (by omega) (Nat.le_of_ble_eq_true rfl) rfl rfl rfl ?_
        refine sm_error (k := 1) (by decide) (by decide) ?_
        refine ev_ri k201_29 rfl ?_
        first | exact ⟨rfl, Inv_e rfl rfl inv⟩ | exact ⟨rfl, inv⟩
def wnR : Option Nat → Int32
  | some m => nI m
  | none => -1000000002
def wnX : Option Nat → Nat → Nat
  | some m, _ => m
  | none, l => l
def wnS (q : Option Nat) (K : mm_I) : mm_I := match q with
  | some _ => K
  | none => mm_up K 90 2 (K 90 2 + 1)
theorem wnS_ne {q : Option Nat} {K : mm_I} {k : Nat} (h : k ≠ 90) : wnS q K k = K k := by
  cases q with
  | none => exact mm_up_ne _ _ _ _ _ h
  | some _ => rfl
def wnF (N : mm_I) (nc np : Nat) (a : Int32) : Option Nat := fnd (fun n => iB (itS N nc np n 0 15) a) 61 0
theorem lp_when {X : Nat × (Nat → Int32)} {d : Nat} {J0 N : mm_I} {nc np : Nat} {a : Int32} {P : Int32 → mm_I → Prop} (wf : wfS N nc np) (hQ : ∀ K m, nz (cells K 32) = itS N nc np m → (∀ k, (k < 32 ∨ 52 < k) → K k = J0 k) → P (wnR (wnF N nc np a)) (wnS (wnF N nc np a) K)) : ∀ (n i : Nat) (J : mm_I), i + n = 61 → fnd (fun n => iB (itS N nc np n 0 15) a) n i = wnF N nc np a → nz (cells J 32) = itS N nc np i → (∀ k, (k < 32 ∨ 52 < k) → J k = J0 k) → mm_Ev mm_T0 X (d + 20) 94 27 [.ref 0, .int a, .int (nI i)] [] J (mm_pi P) := by
  have t0 := tCV
  intro n
  induction n with
  | zero =>
    intro i J hi he eJ fJ
    have e : i = 61 := by omega
    subst e
    refine ev_ild2 k94_27 ?_
    refine ev_bipush k94_28 ?_
    refine ev_icmp_gt k94_30 (fun h30 => ?_) (fun h30 => absurd (show (60 : Int32) < nI 61 by decide) h30)
    refine ev_ald0 k94_62 ?_
    refine ev_ldc k94_63 ?_
    refine ev_cV2i k94_65 cs_174 (by first | assumption | rfl) (by omega) (Nat.le_of_ble_eq_true rfl) rfl rfl rfl ?_
    refine sp_error (k := 2) (by decide) (by decide) (by decide) ?_
    refine ev_ri k94_68 rfl ?_
    have z := hQ J 61 eJ fJ
    rw [← he] at z
    exact z
  | succ n ih =>
    intro i J hi he eJ fJ
    have hlt : i < 61 := by omega
    refine ev_ild2 k94_27 ?_
    refine ev_bipush k94_28 ?_
    refine ev_icmp_gt k94_30 (fun h30 => absurd ((nI_ltI (show 60 < 2 ^ 31 by decide) (show i < 2 ^ 31 by omega)).mp (show nI 60 < nI i from h30)) (by omega)) (fun h30 => ?_)
    refine ev_ald0 k94_33 ?_
    refine ev_getr k94_34 (by first | assumption | rfl) rfl rfl rfl ?_
    refine ev_gfv (j := 15) k94_37 (by first | assumption | rfl) rfl rfl rfl rfl (show J 32 15 = itS N nc np i 0 15 from congrFun (congrFun eJ 0) 15) ?_
    refine ev_ild1 k94_40 ?_
    refine ev_cS2i k94_41 cs_202 rfl rfl rfl ?_
    refine sp_isIn ?_
    refine ev_ifz_eq k94_44 (fun h44 => ?_) (fun h44 => ?_)
    ·
      refine ev_ald0 k94_49 ?_
      refine ev_getr k94_50 (by first | assumption | rfl) rfl rfl rfl ?_
      refine ev_cV1v k94_53 cs_199 (by first | assumption | rfl) (by omega) (Nat.le_of_ble_eq_true rfl) rfl rfl rfl ?_
      refine sp_sitC hh32 eJ (wf_it wf i) (fun K eK fK => ?_)
      refine ev_inc2 k94_56 rfl ?_
      refine ev_goto k94_59 ?_
      have e : fnd (fun n => iB (itS N nc np n 0 15) a) (n + 1) i = fnd (fun n => iB (itS N nc np n 0 15) a) n (i + 1) := if_neg (show ¬ iB (itS N nc np i 0 15) a = true from by rw [h44]; decide)
      rw [nI_1]
      exact ih (i + 1) K (by omega) (e.symm.trans he) eK (fun k hk => (fK k hk).trans (fJ k hk))
    ·
      refine ev_ild2 k94_47 ?_
      refine ev_ri k94_48 rfl ?_
      have e : fnd (fun n => iB (itS N nc np n 0 15) a) (n + 1) i = some i := if_pos h44
      rw [e] at he
      have z := hQ J i eJ fJ
      rw [← he] at z
      exact z
theorem lm_when {X : Nat × (Nat → Int32)} {d : Nat} {I N : mm_I} {nc np : Nat} {a : Int32} {P : Int32 → mm_I → Prop} (hQ : ∀ K m, HS (itS N nc np m) (K 92) nc np → (∀ k, k ≠ 92 → k ≠ 98 → k ≠ 99 → K k = I k) → mm_Ev mm_T0 X (d + 20) 202 49 [.ref 91, .int a, .int (nI (wnX (wnF N nc np a) 61))] [] K (mm_pi P)) : ∀ (n i : Nat) (J : mm_I), i + n = 61 → fnd (fun n => iB (itS N nc np n 0 15) a) n i = wnF N nc np a → HS (itS N nc np i) (J 92) nc np → (∀ k, k ≠ 92 → k ≠ 98 → k ≠ 99 → J k = I k) → mm_Ev mm_T0 X (d + 20) 202 20 [.ref 91, .int a, .int (nI i)] [] J (mm_pi P) := by
  have tm := tM
  have tr := tR
  intro n
  induction n with
  | zero =>
    intro i J hi he H hf
    have e : i = 61 := by omega
    subst e
    refine ev_ild2 k202_20 ?_
    refine ev_bipush k202_21 ?_
    refine ev_icmp_gt k202_23 (fun h23 => ?_) (fun h23 => absurd (show (60 : Int32) < nI 61 by decide) h23)
    have z := hQ J 61 H hf
    rw [← he] at z
    exact z
  | succ n ih =>
    intro i J hi he H hf
    have hlt : i < 61 := by omega
    refine ev_ild2 k202_20 ?_
    refine ev_bipush k202_21 ?_
    refine ev_icmp_gt k202_23 (fun h23 => absurd ((nI_ltI (show 60 < 2 ^ 31 by decide) (show i < 2 ^ 31 by omega)).mp (show nI 60 < nI i from h23)) (by omega)) (fun h23 => ?_)
    refine ev_ald0 k202_26 ?_
    refine ev_getr k202_27 (by first | assumption | rfl) rfl rfl rfl ?_
    refine ev_iconst k202_30 ?_
    refine ev_ialv (j := 4) k202_31 (by first | assumption | rfl) (by omega) rfl (vp_dec rfl) H.1.2.2.2.2.2 ?_
    refine ev_ild1 k202_32 ?_
    refine ev_ishr k202_33 ?_
    refine ev_iconst k202_34 ?_
    refine ev_iand k202_35 ?_
    refine ev_if_ne k202_36 (fun h36 => ?_) (fun h36 => ?_)
    ·
      have e : fnd (fun n => iB (itS N nc np n 0 15) a) (n + 1) i = some i := if_pos (iB_t h36)
      rw [e] at he
      have z := hQ J i H hf
      rw [← he] at z
      exact z
    ·
      refine ev_ald0 k202_39 ?_
      refine ev_cV1v k202_40 cs_265 (by first | assumption | rfl) (by omega) (Nat.le_of_ble_eq_true rfl) rfl rfl rfl ?_
      refine sm_sitM H (fun K HK hK => ?_)
      refine ev_inc2 k202_43 rfl ?_
      refine ev_goto k202_46 ?_
      have e : fnd (fun n => iB (itS N nc np n 0 15) a) (n + 1) i = fnd (fun n => iB (itS N nc np n 0 15) a) n (i + 1) := if_neg (show ¬ iB (itS N nc np i 0 15) a = true from by rw [iB_f h36]; decide)
      rw [nI_1]
      exact ih (i + 1) K (by omega) (e.symm.trans he) HK (fun k a b c => (hK k a b c).trans (hf k a b c))
/-- CV.when -/
theorem op_when {X : Nat × (Nat → Int32)} {d : Nat} {I : mm_I} {P : Int32 → mm_I → Prop} {a : Int32} (inv : Inv I) (hQ : ∀ v J, mm_Ev mm_T0 X (d + 60) 202 0 (mm_ent 202 [.ref 91, .int a]) [] J (mm_pi fun w K => w = v ∧ Inv K) → P v J) : mm_Ev mm_T0 X (d + 60) 94 0 (mm_ent 94 [.ref 0, .int a]) [] I (mm_pi P) := by
  show mm_Ev mm_T0 X (d + 60) 94 0 [.ref 0, .int a, .retAddr 0] [] I (mm_pi P)
  obtain ⟨nc, np, hs⟩ := inv.1
  obtain ⟨c1, n6, p1, p6, rc, rp, rm, ok, sr, tt⟩ := hsF hs
  have t0 := tCV
  have tm := tM
  have tr := tR
  refine ev_ild1 k94_0 ?_
  refine ev_cS1i k94_1 cs_181 rfl rfl rfl ?_
  refine sp_isBill ?_
  refine ev_ifz_ne k94_4 (fun h4 => ?_) (fun h4 => ?_)
  ·
    refine ev_ald0 k94_14 ?_
    refine ev_getr k94_15 (by first | assumption | rfl) rfl rfl rfl ?_
    refine ev_ald0 k94_18 ?_
    refine ev_getr k94_19 (by first | assumption | rfl) rfl rfl rfl ?_
    refine ev_cV2v k94_22 cs_201 (by first | assumption | rfl) (by omega) (Nat.le_of_ble_eq_true rfl) rfl rfl rfl ?_
    refine sp_copyH hh32 hh11 (by decide) hs inv.2.2.2.2.2.2.2.1 (fun J HJ fJ f9 f13 => ?_)
    have tJ : tF I J := ⟨fJ, f9, f13⟩
    have wfJ := wf_nz (HS_wf HJ)
    refine ev_iconst k94_25 ?_
    refine ev_ist2 k94_26 rfl ?_
    refine lp_when (J0 := J) (N := nz (cells J 32)) (nc := nc) (np := np) (a := a) wfJ (fun K m eK fK => ?_) 61 0 J rfl rfl rfl (fun _ _ => rfl)
    have tK := tF_it tJ eK fK
    refine hQ _ _ ?_
    show mm_Ev mm_T0 X (d + 60) 202 0 [.ref 91, .int _, .retAddr 0] [] _ (mm_pi _)
    refine ev_ild1 k202_0 ?_
    refine ev_cS1i k202_1 cs_243 rfl rfl rfl ?_
    refine sm_isBill ?_
    refine ev_ifz_ne k202_4 (fun g4 => ?_) (fun g4 => Bool.noConfusion (Eq.trans (Eq.symm h4) g4))
    refine ev_ald0 k202_14 ?_
    refine ev_cV1v k202_15 cs_269 (by first | assumption | rfl) (by omega) (Nat.le_of_ble_eq_true rfl) rfl rfl rfl ?_
    refine sm_thinks ?_
    refine ev_iconst k202_18 ?_
    refine ev_ist2 k202_19 rfl ?_
    refine lm_when (N := nz (cells J 32)) (nc := nc) (np := np) (a := a) (fun L m3 HL fL => ?_) 61 0 _ rfl rfl (show HS _ (cpA (wnS _ K) 92 94 321 92) nc np from by rw [cpA_ne (by decide), wnS_ne (by decide), tK.1 92 (by omega)]; exact HS_nz HJ) (fun _ _ _ _ => rfl)
    generalize hfd : wnF (nz (cells J 32)) nc np a = fd at fL ⊢
    have hfe : ∀ m2, fd = some m2 → m2 < 61 := fun m2 z => (by have := (fnd_some (hfd.trans z)).2.1; omega)
    rcases fd with _ | m2
    ·
      refine ev_ald0 k202_49 ?_
      refine ev_cV1v k202_50 cs_270 (by first | assumption | rfl) (by omega) (Nat.le_of_ble_eq_true rfl) rfl rfl rfl ?_
      refine sm_putsBack ?_
      refine ev_ild2 k202_53 ?_
      refine ev_bipush k202_54 ?_
      refine ev_jcmp_le k202_56 (fun g56 => absurd (show (60 : Int32) < nI 61 by decide) g56) (fun g56 => ?_)
      refine ev_ald0 k202_59 ?_
      refine ev_ldc k202_60 ?_
      refine ev_cV2i k202_62 cs_238 (by first | assumption | rfl) (by omega) (Nat.le_of_ble_eq_true rfl) rfl rfl rfl ?_
      refine sm_error (k := 2) (by decide) (by decide) ?_
      refine ev_goto k202_65 ?_
      refine ev_ri k202_69 rfl ?_
      exact ⟨rfl, Inv_te inv tK (th_bk fL).1 (th_bk fL).2⟩
    ·
      refine ev_ald0 k202_49 ?_
      refine ev_cV1v k202_50 cs_270 (by first | assumption | rfl) (by omega) (Nat.le_of_ble_eq_true rfl) rfl rfl rfl ?_
      refine sm_putsBack ?_
      refine ev_ild2 k202_53 ?_
      refine ev_bipush k202_54 ?_
      refine ev_jcmp_le k202_56 (fun g56 => ?_) (fun g56 => absurd ((nI_ltI (show 60 < 2 ^ 31 by decide) (show m2 < 2 ^ 31 by have := hfe m2 rfl; omega)).mp (show nI 60 < nI m2 from g56)) (by have := hfe m2 rfl; omega))
      refine ev_ild2 k202_68 ?_
      refine ev_ri k202_69 rfl ?_
      exact ⟨rfl, Inv_tb inv tK fL⟩
  ·
    refine ev_ald0 k94_7 ?_
    refine ev_ldc k94_8 ?_
    refine ev_cV2i k94_10 cs_174 (by first | assumption | rfl) (by omega) (Nat.le_of_ble_eq_true rfl) rfl rfl rfl ?_
    refine sp_error (k := 1) (by decide) (by decide) (by decide) ?_
    refine ev_ri k94_13 rfl ?_
    refine hQ _ _ ?_
    show mm_Ev mm_T0 X (d + 60) 202 0 [.ref 91, .int _, .retAddr 0] [] _ (mm_pi _)
    refine ev_ild1 k202_0 ?_
    refine ev_cS1i k202_1 cs_243 rfl rfl rfl ?_
    refine sm_isBill ?_
    refine ev_ifz_ne k202_4 (fun g4 => Bool.noConfusion (Eq.trans (Eq.symm h4) g4)) (fun g4 => ?_)
    refine ev_ald0 k202_7 ?_
    refine ev_ldc k202_8 ?_
    refine ev_cV2i k202_10 cs_238 (by first | assumption | rfl) (by omega) (Nat.le_of_ble_eq_true rfl) rfl rfl rfl ?_
    refine sm_error (k := 1) (by decide) (by decide) ?_
    refine ev_ri k202_13 rfl ?_
    first | exact ⟨rfl, Inv_e rfl rfl inv⟩ | exact ⟨rfl, inv⟩
def slS (a : Nat → Int32) (p : Nat) (s : Int32) : Int32 := if a p = -1 then s ||| (1 <<< (nI p &&& 31)) else s
theorem lp_seatless {X : Nat × (Nat → Int32)} {d : Nat} {I N : mm_I} {nc np : Nat} {P : Int32 → mm_I → Prop} (e0 : I 32 7 = nI np) (e8 : I 40 = N 8) (hp6 : np ≤ 6) (hQ : P (fo (slS (N 8)) np 0 0) I) : ∀ (n i : Nat) (s : Int32), i + n = np → fo (slS (N 8)) n i s = fo (slS (N 8)) np 0 0 → mm_Ev mm_T0 X (d + 20) 101 22 [.ref 0, .int s, .int (nI i)] [] I (mm_pi P) := by
  have t0 := tCV
  intro n
  induction n with
  | zero =>
    intro i s hi he
    have e : i = np := by omega
    subst e
    refine ev_ild2 k101_22 ?_
    refine ev_ald0 k101_23 ?_
    refine ev_getr k101_24 (by first | assumption | rfl) rfl rfl rfl ?_
    refine ev_gfv (j := 7) k101_27 (by first | assumption | rfl) rfl rfl rfl rfl e0 ?_
    refine ev_jcmp_ge k101_30 (fun h30 => ?_) (fun h30 => absurd h30 (nI_nlt (Nat.le_refl _) (by omega)))
    refine ev_ild1 k101_58 ?_
    refine ev_ri k101_59 rfl ?_
    rw [show s = fo (slS (N 8)) i 0 0 from he]
    exact hQ
  | succ n ih =>
    intro i s hi he
    have hlt : i < np := by omega
    refine ev_ild2 k101_22 ?_
    refine ev_ald0 k101_23 ?_
    refine ev_getr k101_24 (by first | assumption | rfl) rfl rfl rfl ?_
    refine ev_gfv (j := 7) k101_27 (by first | assumption | rfl) rfl rfl rfl rfl e0 ?_
    refine ev_jcmp_ge k101_30 (fun h30 => absurd (nI_lt hlt (by omega)) h30) (fun h30 => ?_)
    refine ev_ald0 k101_33 ?_
    refine ev_getr k101_34 (by first | assumption | rfl) rfl rfl rfl ?_
    refine ev_getr k101_37 (by first | assumption | rfl) rfl rfl rfl ?_
    refine ev_ild2 k101_40 ?_
    refine ev_ialv (j := i) k101_41 (by first | assumption | rfl) (by omega) (nI_clamp (by omega)) (vp_in_nI (show i < 6 by omega) (by omega)) (congrFun e8 i) ?_
    refine ev_iconst k101_42 ?_
    refine ev_icmp_ne k101_43 (fun h43 => ?_) (fun h43 => ?_)
    ·
      refine ev_inc2 k101_52 rfl ?_
      refine ev_goto k101_55 ?_
      rw [nI_1]
      refine ih (i + 1) _ (by omega) ?_
      rw [← he]
      show _ = fo (slS (N 8)) n (i + 1) (slS (N 8) i s)
      rw [show slS (N 8) i s = s from if_neg h43]
    ·
      refine ev_ild1 k101_46 ?_
      refine ev_iconst k101_47 ?_
      refine ev_ild2 k101_48 ?_
      refine ev_ishl k101_49 ?_
      refine ev_ior k101_50 ?_
      refine ev_ist1 k101_51 rfl ?_
      refine ev_inc2 k101_52 rfl ?_
      refine ev_goto k101_55 ?_
      rw [nI_1]
      refine ih (i + 1) _ (by omega) ?_
      rw [← he]
      show _ = fo (slS (N 8)) n (i + 1) (slS (N 8) i s)
      rw [show slS (N 8) i s = s ||| (1 <<< (nI i &&& 31)) from if_pos h43]
theorem lm_seatless {X : Nat × (Nat → Int32)} {d : Nat} {I N : mm_I} {nc np : Nat} {P : Int32 → mm_I → Prop} (H : HS N (I 92) nc np) (hQ : mm_Ev mm_T0 X (d + 20) 214 48 [.ref 91, .int (fo (slS (N 8)) np 0 0), .int (nI np)] [] I (mm_pi P)) : ∀ (n i : Nat) (s : Int32), i + n = np → fo (slS (N 8)) n i s = fo (slS (N 8)) np 0 0 → mm_Ev mm_T0 X (d + 20) 214 12 [.ref 91, .int s, .int (nI i)] [] I (mm_pi P) := by
  have tm := tM
  have tr := tR
  have hp6 := H.1.1.2.2.2.1
  intro n
  induction n with
  | zero =>
    intro i s hi he
    have e : i = np := by omega
    subst e
    refine ev_ild2 k214_12 ?_
    refine ev_ald0 k214_13 ?_
    refine ev_getr k214_14 (by first | assumption | rfl) rfl rfl rfl ?_
    refine ev_iconst k214_17 ?_
    refine ev_ialv (j := 3) k214_18 (by first | assumption | rfl) (by omega) rfl (vp_dec rfl) H.1.1.2.2.1 ?_
    refine ev_jcmp_ge k214_19 (fun h19 => ?_) (fun h19 => absurd h19 (nI_nlt (Nat.le_refl _) (by omega)))
    rw [show s = fo (slS (N 8)) i 0 0 from he]
    exact hQ
  | succ n ih =>
    intro i s hi he
    have hlt : i < np := by omega
    refine ev_ild2 k214_12 ?_
    refine ev_ald0 k214_13 ?_
    refine ev_getr k214_14 (by first | assumption | rfl) rfl rfl rfl ?_
    refine ev_iconst k214_17 ?_
    refine ev_ialv (j := 3) k214_18 (by first | assumption | rfl) (by omega) rfl (vp_dec rfl) H.1.1.2.2.1 ?_
    refine ev_jcmp_ge k214_19 (fun h19 => absurd (nI_lt hlt (by omega)) h19) (fun h19 => ?_)
    refine ev_ild1 k214_22 ?_
    refine ev_ald0 k214_23 ?_
    refine ev_ild2 k214_24 ?_
    refine ev_iconst k214_25 ?_
    refine ev_cV3i k214_26 cs_225 (by first | assumption | rfl) (by omega) (Nat.le_of_ble_eq_true rfl) rfl rfl rfl ?_
    refine sm_aboutv (w := 2) (show i < 6 by omega) (by decide) (H.1.2.2.1 i hlt).2.2 ?_
    refine ev_iconst k214_29 ?_
    refine ev_icmp_ne k214_30 (fun h30 => ?_) (fun h30 => ?_)
    ·
      refine ev_iconst k214_39 ?_
      refine ev_ior k214_40 ?_
      refine ev_ist1 k214_41 rfl ?_
      refine ev_inc2 k214_42 rfl ?_
      refine ev_goto k214_45 ?_
      rw [nI_1]
      refine ih (i + 1) _ (by omega) ?_
      rw [← he, or0]
      show _ = fo (slS (N 8)) n (i + 1) (slS (N 8) i s)
      rw [show slS (N 8) i s = s from if_neg h30]
    ·
      refine ev_iconst k214_33 ?_
      refine ev_ild2 k214_34 ?_
      refine ev_ishl k214_35 ?_
      refine ev_goto k214_36 ?_
      refine ev_ior k214_40 ?_
      refine ev_ist1 k214_41 rfl ?_
      refine ev_inc2 k214_42 rfl ?_
      refine ev_goto k214_45 ?_
      rw [nI_1]
      refine ih (i + 1) _ (by omega) ?_
      rw [← he]
      show _ = fo (slS (N 8)) n (i + 1) (slS (N 8) i s)
      rw [show slS (N 8) i s = s ||| (1 <<< (nI i &&& 31)) from if_pos h30]
theorem rN_ne {S : mm_I} {nc np k : Nat} (h8 : k ≠ 8) (hk : k ≤ 20 ∧ k ≠ 5 ∧ k ≠ 12 ∧ k ≠ 16) : rN S nc np k = S k := by
  unfold rN
  rw [nz_at hk.1 hk.2.1 hk.2.2.1 hk.2.2.2, Sa_ne h8]
theorem tF_r {I J K : mm_I} {nc np : Nat} {N : mm_I} (h : tF I J) (h9 : N 9 = J 41) (h13 : N 13 = J 45) (e : nz (cells K 32) = rN N nc np) (f : ∀ k, (k < 32 ∨ 52 < k) → K k = J k) : tF I K := by
  refine ⟨fun k hk => (f k hk).trans (h.1 k hk), ?_, ?_⟩
  · have z := congrFun e 9
    rw [rN_ne (by decide) (by decide)] at z
    exact (show K 41 = N 9 from z).trans (h9.trans h.2.1)
  · have z := congrFun e 13
    rw [rN_ne (by decide) (by decide)] at z
    exact (show K 45 = N 13 from z).trans (h13.trans h.2.2)
/-- CV.seatless -/
theorem op_seatless {X : Nat × (Nat → Int32)} {d : Nat} {I : mm_I} {P : Int32 → mm_I → Prop}  (inv : Inv I) (hQ : ∀ v J, mm_Ev mm_T0 X (d + 60) 214 0 (mm_ent 214 [.ref 91]) [] J (mm_pi fun w K => w = v ∧ Inv K) → P v J) : mm_Ev mm_T0 X (d + 60) 101 0 (mm_ent 101 [.ref 0]) [] I (mm_pi P) := by
  show mm_Ev mm_T0 X (d + 60) 101 0 [.ref 0, .retAddr 0, .retAddr 0] [] I (mm_pi P)
  obtain ⟨nc, np, hs⟩ := inv.1
  obtain ⟨c1, n6, p1, p6, rc, rp, rm, ok, sr, tt⟩ := hsF hs
  have t0 := tCV
  have tm := tM
  have tr := tR
  refine ev_ald0 k101_0 ?_
  refine ev_getr k101_1 (by first | assumption | rfl) rfl rfl rfl ?_
  refine ev_ald0 k101_4 ?_
  refine ev_getr k101_5 (by first | assumption | rfl) rfl rfl rfl ?_
  refine ev_cV2v k101_8 cs_201 (by first | assumption | rfl) (by omega) (Nat.le_of_ble_eq_true rfl) rfl rfl rfl ?_
  refine sp_copyH hh32 hh11 (by decide) hs inv.2.2.2.2.2.2.2.1 (fun J HJ fJ f9 f13 => ?_)
  have tJ : tF I J := ⟨fJ, f9, f13⟩
  have wfJ := wf_nz (HS_wf HJ)
  refine ev_ald0 k101_11 ?_
  refine ev_getr k101_12 (by first | assumption | rfl) rfl rfl rfl ?_
  refine ev_cV1v k101_15 cs_197 (by first | assumption | rfl) (by omega) (Nat.le_of_ble_eq_true rfl) rfl rfl rfl ?_
  refine sp_runC hh32 rfl wfJ (fun K eK fK => ?_)
  have tK := tF_r tJ rfl rfl eK fK
  have wfK := wf_rN wfJ
  refine ev_iconst k101_18 ?_
  refine ev_ist1 k101_19 rfl ?_
  refine ev_iconst k101_20 ?_
  refine ev_ist2 k101_21 rfl ?_
  refine lp_seatless (N := rN (nz (cells J 32)) nc np) (nc := nc) (np := np) ((congrFun (show K 32 = rN (nz (cells J 32)) nc np 0 from congrFun eK 0) 7).trans wfK.1) (congrFun eK 8) p6 ?_ np 0 0 (by omega) rfl
  refine hQ _ _ ?_
  show mm_Ev mm_T0 X (d + 60) 214 0 [.ref 91, .retAddr 0, .retAddr 0] [] _ (mm_pi _)
  refine ev_ald0 k214_0 ?_
  refine ev_cV1v k214_1 cs_269 (by first | assumption | rfl) (by omega) (Nat.le_of_ble_eq_true rfl) rfl rfl rfl ?_
  refine sm_thinks ?_
  refine ev_ald0 k214_4 ?_
  refine ev_cV1v k214_5 cs_264 (by first | assumption | rfl) (by omega) (Nat.le_of_ble_eq_true rfl) rfl rfl rfl ?_
  refine sm_runM (N := nz (cells J 32)) (nc := nc) (np := np) (show HS _ (cpA K 92 94 321 92) nc np from by rw [cpA_ne (by decide), tK.1 92 (by omega)]; exact HS_nz HJ) (fun L HL fL => ?_)
  refine ev_iconst k214_8 ?_
  refine ev_ist1 k214_9 rfl ?_
  refine ev_iconst k214_10 ?_
  refine ev_ist2 k214_11 rfl ?_
  refine lm_seatless HL ?_ np 0 0 (by omega) rfl
  refine ev_ald0 k214_48 ?_
  refine ev_cV1v k214_49 cs_270 (by first | assumption | rfl) (by omega) (Nat.le_of_ble_eq_true rfl) rfl rfl rfl ?_
  refine sm_putsBack ?_
  refine ev_ild1 k214_52 ?_
  refine ev_ri k214_53 rfl ?_
  exact ⟨rfl, Inv_tb inv tK fL⟩
