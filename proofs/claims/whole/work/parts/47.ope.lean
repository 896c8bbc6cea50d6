/-! Sittings, draws -/
theorem wB_1n {hi : Nat} {v : Int32} (hn : hi < 1000) (h : wB 1 (nI hi) v = true) : ∃ k : Nat, 1 ≤ k ∧ k ≤ hi ∧ v = nI k := by
  simp only [wB, Bool.and_eq_true, decide_eq_true_eq] at h
  have h0 := Int32.le_iff_toInt_le.mp h.1
  have h1 : ¬ v < 0 := fun z => by
    have := Int32.lt_iff_toInt_lt.mp z
    rw [show (1 : Int32) = nI 1 from rfl, nI_toInt (by omega)] at h0
    rw [show (0 : Int32) = nI 0 from rfl, nI_toInt (by omega)] at this
    omega
  obtain ⟨j, hj, rfl⟩ := nI_of h1
  have h2 := Int32.le_iff_toInt_le.mp h.2
  rw [show (1 : Int32) = nI 1 from rfl, nI_toInt (by omega), nI_toInt hj] at h0
  rw [nI_toInt hj, nI_toInt (by omega)] at h2
  exact ⟨j, by omega, by omega, rfl⟩
theorem nI_all (x : Int32) : x = nI x.toBitVec.toNat := by
  apply Int32.toBitVec_inj.mp
  apply BitVec.eq_of_toNat_eq
  rw [pk_tn x.toBitVec.isLt]
theorem us8 (v : Int32) : ∃ y : Nat, y < 2 ^ 24 ∧ us v 8 = nI y := by
  refine ⟨v.toBitVec.toNat / 2 ^ 8, ?_, ?_⟩
  · have := v.toBitVec.isLt
    omega
  · have z := pk_ushrN v.toBitVec.isLt 8 8 (by decide)
    rw [← nI_all v] at z
    exact z
def zA (z : Int32) : Int32 := z * 1103515245 + 12345
def dNp (z : Int32) (np : Nat) : Nat := (us (zA z) 8).toNatClampNeg % np
def dNv (z : Int32) : Int32 := nI ((us (zA (zA z)) 8).toNatClampNeg % 100)
def dN (N : mm_I) (np : Nat) : mm_I := if np = 0 then N else mm_up (mm_up N 0 17 (zA (zA (N 0 17)))) 6 (dNp (N 0 17) np) (dNv (N 0 17))
theorem us_rem (z : Int32) {n : Nat} (h : 0 < n) (hn : n ≤ 1000) : us (zA z) 8 - us (zA z) 8 / nI n * nI n = nI ((us (zA z) 8).toNatClampNeg % n) := by
  obtain ⟨y, hy, e⟩ := us8 (zA z)
  rw [e, nI_clamp (by omega), pk_rem (by omega) h (by omega)]
theorem nz_up (S : mm_I) {k : Nat} (hk : k ≤ 20 ∧ k ≠ 5 ∧ k ≠ 12 ∧ k ≠ 16) (j : Nat) (x : Int32) : nz (mm_up S k j x) = mm_up (nz S) k j x := by
  funext k' j'
  rw [mm_up_at]
  unfold nz
  by_cases h : k' ≤ 20 ∧ k' ≠ 5 ∧ k' ≠ 12 ∧ k' ≠ 16
  · rw [if_pos h, if_pos h, mm_up_at]
  · rw [if_neg h, if_neg h, if_neg (fun z => h (by rw [z.1]; exact hk))]
theorem nz_cup {I N : mm_I} {hb : Nat} (e : nz (cells I hb) = N) (k : Nat) (hk : k ≤ 20 ∧ k ≠ 5 ∧ k ≠ 12 ∧ k ≠ 16) (j : Nat) (x : Int32) : nz (cells (mm_up I (hb + k) j x) hb) = mm_up N k j x := by
  rw [cells_up, nz_up _ hk, e]
theorem wf_mem0 {S : mm_I} {nc np p x : Nat} {z : Int32} (hx : x < 100) (H : wfS S nc np) : wfS (mm_up (mm_up S 0 17 z) 6 p (nI x)) nc np := by
  obtain ⟨h7, h6, ok, sr, q, hq, eq⟩ := H
  have g0 : ∀ j, j ≠ 17 → mm_up (mm_up S 0 17 z) 6 p (nI x) 0 j = S 0 j := fun j hj => by rw [mm_up_ne _ _ _ _ _ (by omega), mm_up_at, if_neg (fun w => hj w.2)]
  have g : ∀ k, k ≠ 0 → k ≠ 6 → mm_up (mm_up S 0 17 z) 6 p (nI x) k = S k := fun k a b => by rw [mm_up_ne _ _ _ _ _ b, mm_up_ne _ _ _ _ _ a]
  refine ⟨(g0 7 (by decide)).trans h7, h6, ?_, ⟨fun c hc => sr.1 c hc, fun p' hp' => ?_, sr.2.2⟩, q, hq, (g0 15 (by decide)).trans eq⟩
  · exact ⟨(g0 1 (by decide)).trans ok.1, ok.2⟩
  · rw [g 7 (by decide) (by decide), g 8 (by decide) (by decide)]
    obtain ⟨a, b, a1, b1, a2, b2, a3⟩ := sr.2.1 p' hp'
    by_cases e : p' = p
    · subst e; exact ⟨x, b, hx, b1, by simp [mm_up_at], b2, a3⟩
    · refine ⟨a, b, a1, b1, ?_, b2, a3⟩
      rw [mm_up_at, if_neg (fun w => e w.2), mm_up_ne _ _ _ _ _ (by decide)]; exact a2
theorem wf_dN {N : mm_I} {nc np : Nat} (H : wfS N nc np) : wfS (dN N np) nc np := by
  unfold dN
  split
  · exact H
  · exact wf_mem0 (by omega) H
theorem HS_dn0 {N : mm_I} {R R' : Nat → Int32} {nc np p x : Nat} {z : Int32} (H : HS N R nc np) (hp : p < np) (hx : x < 100) (h1 : R' 1 = z) (h2 : R' (31 + 3 * p) = nI x) (hr : ∀ j, j ≠ 1 → j ≠ 31 + 3 * p → R' j = R j) : HS (mm_up (mm_up N 0 17 z) 6 p (nI x)) R' nc np := by
  have H2 := HS_member (w := 0) (v := nI x) (by decide) hp (fun _ => ⟨x, hx, rfl⟩) (fun z => absurd z (by decide)) (fun z => absurd z (by decide)) (HS_z (v := z) H)
  refine HS_congr (fun _ _ _ _ _ => rfl) (fun j _ => ?_) H2
  simp only [upd]
  by_cases a : j = 31 + 3 * p + 0
  · rw [if_pos a, a]; exact h2
  · rw [if_neg a]
    by_cases b : j = 1
    · rw [if_pos b, b]; exact h1
    · rw [if_neg b]; exact hr j b a
theorem HS_dN {N : mm_I} {R R' : Nat → Int32} {nc np : Nat} (H : HS N R nc np) (hn : 0 < np) (h1 : R' 1 = zA (zA (N 0 17))) (h2 : R' (31 + 3 * dNp (N 0 17) np) = dNv (N 0 17)) (hr : ∀ j, j ≠ 1 → j ≠ 31 + 3 * dNp (N 0 17) np → R' j = R j) : HS (dN N np) R' nc np := by
  unfold dN
  rw [if_neg (by omega)]
  have hp : dNp (N 0 17) np < np := Nat.mod_lt _ hn
  unfold dNv at h2 ⊢
  generalize dNp (N 0 17) np = p at hp h2 hr ⊢
  have hx : (us (zA (zA (N 0 17))) 8).toNatClampNeg % 100 < 100 := Nat.mod_lt _ (by decide)
  generalize (us (zA (zA (N 0 17))) 8).toNatClampNeg % 100 = x at hx h2 ⊢
  exact HS_dn0 H hp hx h1 h2 hr
def itD (N : mm_I) (nc np : Nat) : Nat → mm_I
  | 0 => N
  | n + 1 => sN (dN (itD N nc np n) np) nc np
theorem wf_itD {N : mm_I} {nc np : Nat} (wf : wfS N nc np) : ∀ n, wfS (itD N nc np n) nc np
  | 0 => wf
  | n + 1 => wf_sN (wf_dN (wf_itD wf n))
theorem mm_up_up (S : mm_I) (k j : Nat) (x y : Int32) : mm_up (mm_up S k j x) k j y = mm_up S k j y := by
  funext k' j'
  rw [mm_up_at, mm_up_at, mm_up_at]
  split <;> rfl
theorem n0lt {n : Nat} (h : n ≤ 1000) : (0 : Int32) < nI n ↔ 0 < n := nI_ltI (show 0 < 2 ^ 31 by decide) (by omega)
/-- House.drawSpeed -/
theorem sp_drawSpeed {X : Nat × (Nat → Int32)} {d : Nat} {I : mm_I} {hb np : Nat} {P : mm_I → Prop} (hh : hH hb) (hm : I hb 7 = nI np) (hp : np ≤ 6) (hQ0 : np = 0 → P I) (hQ : 0 < np → P (mm_up (mm_up (mm_up I hb 17 (zA (I hb 17))) hb 17 (zA (zA (I hb 17)))) (hb + 6) (dNp (I hb 17) np) (dNv (I hb 17)))) : mm_Ev mm_T0 X (d + 1) 38 0 (mm_ent 38 [.ref hb]) [] I (mm_pv P) := by
  show mm_Ev mm_T0 X (d + 1) 38 0 [.ref hb, .retAddr 0] [] I (mm_pv P)
  have t0 := tH0 hh
  have t6 := tH6 hh
  have hbl := hH_lt hh
  refine ev_ald0 k38_0 ?_
  refine ev_gfv (j := 7) k38_1 (by first | assumption | rfl) rfl rfl rfl rfl hm ?_
  refine ev_jf_le k38_4 (fun h4 => ?_) (fun h4 => ?_)
  ·
    refine ev_rv k38_30 rfl ?_
    exact hQ0 (by have := h4; rw [n0lt (by omega)] at this; omega)
  ·
    have hn0 : 0 < np := (n0lt (by omega)).mp h4
    have hdp : dNp (I hb 17) np < np := Nat.mod_lt _ hn0
    refine ev_ald0 k38_7 ?_
    refine ev_cV1i k38_8 cs_123 (by first | assumption | rfl) (by omega) (Nat.le_of_ble_eq_true rfl) rfl rfl rfl ?_
    refine sp_draw hh ?_
    refine ev_ald0 k38_11 ?_
    refine ev_gfv (j := 7) k38_12 (by first | assumption | rfl) rfl rfl rfl rfl (show _ = nI np from by rw [mm_up_at, if_neg (by omega)]; exact hm) ?_
    refine ev_irem k38_15 (fun z => absurd ((nI_eq (show np < 2 ^ 31 by omega) (show 0 < 2 ^ 31 by omega)).mp z) (by omega)) ?_
    rw [show us (I hb 17 * 1103515245 + 12345) 8 - us (I hb 17 * 1103515245 + 12345) 8 / nI np * nI np = nI (dNp (I hb 17) np) from us_rem (I hb 17) hn0 (by omega)]
    refine ev_ist1 k38_16 rfl ?_
    refine ev_ald0 k38_17 ?_
    refine ev_getr k38_18 (by first | assumption | rfl) rfl rfl rfl ?_
    refine ev_ild1 k38_21 ?_
    refine ev_ald0 k38_22 ?_
    refine ev_cV1i k38_23 cs_123 (by first | assumption | rfl) (by omega) (Nat.le_of_ble_eq_true rfl) rfl rfl rfl ?_
    refine sp_draw hh ?_
    refine ev_bipush k38_26 ?_
    refine ev_irem k38_28 (by decide) ?_
    rw [show mm_up I hb 17 (I hb 17 * 1103515245 + 12345) hb 17 = zA (I hb 17) from by rw [mm_up_at, if_pos ⟨rfl, rfl⟩]; rfl]
    rw [show us (zA (I hb 17) * 1103515245 + 12345) 8 - us (zA (I hb 17) * 1103515245 + 12345) 8 / 100 * 100 = dNv (I hb 17) from us_rem (zA (I hb 17)) (n := 100) (by decide) (by decide)]
    refine ev_ias (j := (dNp (I hb 17) np)) k38_29 (by first | assumption | rfl) (nI_clamp (by omega)) (vp_in_nI (show dNp (I hb 17) np < 6 by omega) (by omega)) ?_
    refine ev_rv k38_30 rfl ?_
    exact hQ hn0
/-- Model.draw -/
theorem sm_draw {X : Nat × (Nat → Int32)} {d : Nat} {I : mm_I} {P : Int32 → mm_I → Prop} (hQ : P (us (zA (I 92 1)) 8) (mm_up I 92 1 (zA (I 92 1)))) : mm_Ev mm_T0 X (d) 197 0 (mm_ent 197 [.ref 91]) [] I (mm_pi P) := by
  show mm_Ev mm_T0 X (d) 197 0 [.ref 91] [] I (mm_pi P)
  have tm := tM
  have tr := tR
  refine ev_ald0 k197_0 ?_
  refine ev_getr k197_1 (by first | assumption | rfl) rfl rfl rfl ?_
  refine ev_iconst k197_4 ?_
  refine ev_ald0 k197_5 ?_
  refine ev_getr k197_6 (by first | assumption | rfl) rfl rfl rfl ?_
  refine ev_iconst k197_9 ?_
  refine ev_ial (j := 1) k197_10 (by first | assumption | rfl) (by omega) rfl (vp_dec rfl) ?_
  refine ev_ldc k197_11 ?_
  refine ev_imul k197_13 ?_
  refine ev_sipush k197_14 ?_
  refine ev_iadd k197_17 ?_
  refine ev_ias (j := 1) k197_18 (by first | assumption | rfl) rfl (vp_dec rfl) ?_
  refine ev_ald0 k197_19 ?_
  refine ev_getr k197_20 (by first | assumption | rfl) rfl rfl rfl ?_
  refine ev_iconst k197_23 ?_
  refine ev_ialv (j := 1) k197_24 (by first | assumption | rfl) (by omega) rfl (vp_dec rfl) (show _ = zA (I 92 1) from by rw [mm_up_at, if_pos ⟨rfl, rfl⟩]; rfl) ?_
  refine ev_bipush k197_25 ?_
  refine ev_iushr k197_27 ?_
  refine ev_ri k197_28 rfl ?_
  exact hQ
theorem lp_sittings {X : Nat × (Nat → Int32)} {d : Nat} {I N : mm_I} {nc np M : Nat} {P : Int32 → mm_I → Prop} (wf : wfS N nc np) (hM : M ≤ 60) (hQ : ∀ K, nz (cells K 11) = itS N nc np M → (∀ k, (k < 11 ∨ 31 < k) → K k = I k) → P (itS N nc np M 0 15) K) : ∀ (n i : Nat) (J : mm_I), i + n = M → nz (cells J 11) = itS N nc np i → (∀ k, (k < 11 ∨ 31 < k) → J k = I k) → mm_Ev mm_T0 X (d + 20) 91 41 [.ref 0, .int (nI M), .int (nI i)] [] J (mm_pi P) := by
  have t0 := tCV
  intro n
  induction n with
  | zero =>
    intro i J hi eJ fJ
    have e : i = M := by omega
    subst e
    refine ev_ild2 k91_41 ?_
    refine ev_ild1 k91_42 ?_
    refine ev_jcmp_ge k91_43 (fun h43 => ?_) (fun h43 => absurd h43 (nI_nlt (Nat.le_refl _) (by omega)))
    refine ev_ald0 k91_59 ?_
    refine ev_getr k91_60 (by first | assumption | rfl) rfl rfl rfl ?_
    refine ev_gfv (j := 15) k91_63 (by first | assumption | rfl) rfl rfl rfl rfl (show J 11 15 = itS N nc np i 0 15 from congrFun (congrFun eJ 0) 15) ?_
    refine ev_ri k91_66 rfl ?_
    exact hQ J eJ fJ
  | succ n ih =>
    intro i J hi eJ fJ
    have hlt : i < M := by omega
    refine ev_ild2 k91_41 ?_
    refine ev_ild1 k91_42 ?_
    refine ev_jcmp_ge k91_43 (fun h43 => absurd (nI_lt hlt (by omega)) h43) (fun h43 => ?_)
    refine ev_ald0 k91_46 ?_
    refine ev_getr k91_47 (by first | assumption | rfl) rfl rfl rfl ?_
    refine ev_cV1v k91_50 cs_199 (by first | assumption | rfl) (by omega) (Nat.le_of_ble_eq_true rfl) rfl rfl rfl ?_
    refine sp_sitC hh11 eJ (wf_it wf i) (fun K eK fK => ?_)
    refine ev_inc2 k91_53 rfl ?_
    refine ev_goto k91_56 ?_
    rw [nI_1]
    exact ih (i + 1) K (by omega) eK (fun k hk => (fK k hk).trans (fJ k hk))
/-- CV.sittings -/
theorem op_sittings {X : Nat × (Nat → Int32)} {d : Nat} {I : mm_I} {P : Int32 → mm_I → Prop} {a : Int32} (inv : Inv I) (hQ : ∀ v J, mm_Ev mm_T0 X (d + 60) 196 0 (mm_ent 196 [.ref 91, .int a]) [] J (mm_pi fun w K => w = v ∧ Inv K) → P v J) : mm_Ev mm_T0 X (d + 60) 91 0 (mm_ent 91 [.ref 0, .int a]) [] I (mm_pi P) := by
  show mm_Ev mm_T0 X (d + 60) 91 0 [.ref 0, .int a, .retAddr 0] [] I (mm_pi P)
  obtain ⟨nc, np, hs⟩ := inv.1
  obtain ⟨c1, n6, p1, p6, rc, rp, rm, ok, sr, tt⟩ := hsF hs
  have t0 := tCV
  have tm := tM
  have tr := tR
  refine ev_ild1 k91_0 ?_
  refine ev_iconst k91_1 ?_
  refine ev_bipush k91_2 ?_
  refine ev_cS3i k91_4 cs_179 rfl rfl rfl ?_
  refine sp_isWithin ?_
  refine ev_ifz_ne k91_7 (fun h7 => ?_) (fun h7 => ?_)
  ·
    obtain ⟨M, hM1, hM, rfl⟩ := wB_1n (hi := 60) (by decide) h7
    refine ev_ald0 k91_17 ?_
    refine ev_getr k91_18 (by first | assumption | rfl) rfl rfl rfl ?_
    refine ev_gfv (j := 16) k91_21 (by first | assumption | rfl) rfl rfl rfl rfl (show _ = cells I 11 0 16 from rfl) ?_
    refine ev_ild1 k91_24 ?_
    refine ev_iadd k91_25 ?_
    refine ev_sipush k91_26 ?_
    refine ev_jcmp_le k91_29 (fun h29 => ?_) (fun h29 => ?_)
    ·
      refine ev_iconst k91_39 ?_
      refine ev_ist2 k91_40 rfl ?_
      refine lp_sittings (I := I) (N := nz (cells I 11)) (nc := nc) (np := np) (wf_nz (HS_wf hs)) hM (fun K eK fK => ?_) M 0 I (by omega) rfl (fun _ _ => rfl)
      refine hQ _ _ ?_
      show mm_Ev mm_T0 X (d + 60) 196 0 [.ref 91, .int _] [] _ (mm_pi _)
      refine ev_ild1 k196_0 ?_
      refine ev_iconst k196_1 ?_
      refine ev_bipush k196_2 ?_
      refine ev_cS3i k196_4 cs_224 rfl rfl rfl ?_
      refine sp_in ?_
      refine ev_ifz_ne k196_7 (fun g7 => ?_) (fun g7 => Bool.noConfusion (Eq.trans (Eq.symm h7) g7))
      refine ev_ald0 k196_17 ?_
      refine ev_getr k196_18 (by first | assumption | rfl) rfl rfl rfl ?_
      refine ev_iconst k196_21 ?_
      refine ev_ialv (j := 0) k196_22 (by first | assumption | rfl) (by omega) rfl (vp_dec rfl) ((congrFun (fK 92 (by omega)) 0).trans rm.2.2.2.1) ?_
      refine ev_ild1 k196_23 ?_
      refine ev_iadd k196_24 ?_
      refine ev_sipush k196_25 ?_
      refine ev_jcmp_le k196_28 (fun g28 => ?_) (fun g28 => absurd g28 h29)
      refine ev_ald0 k196_38 ?_
      refine ev_ild1 k196_39 ?_
      refine ev_cV2v k196_40 cs_266 (by first | assumption | rfl) (by omega) (Nat.le_of_ble_eq_true rfl) rfl rfl rfl ?_
      refine sm_goesOn (N := nz (cells I 11)) (nc := nc) (np := np) hM (show HS _ (K 92) nc np from by rw [fK 92 (by omega)]; exact HS_nz hs) (fun L HL fL => ?_)
      refine ev_ald0 k196_43 ?_
      refine ev_getr k196_44 (by first | assumption | rfl) rfl rfl rfl ?_
      refine ev_iconst k196_47 ?_
      refine ev_ialv (j := 4) k196_48 (by first | assumption | rfl) (by omega) rfl (vp_dec rfl) HL.1.2.2.2.2.2 ?_
      refine ev_ri k196_49 rfl ?_
      refine ⟨rfl, Inv_H inv (fun k hk => (fL k (by omega) (by omega) (by omega)).trans (fK k (by omega))) (HS_zn (nc := nc) (np := np) ?_)⟩
      rw [show nz (cells L 11) = nz (cells K 11) from nz_eq (fun k a _ _ _ => fL _ (by omega) (by omega) (by omega)), eK]
      exact HL
    ·
      refine ev_ald0 k91_32 ?_
      refine ev_ldc k91_33 ?_
      refine ev_cV2i k91_35 cs_174 (by first | assumption | rfl) (by omega) (Nat.le_of_ble_eq_true rfl) rfl rfl rfl ?_
      refine sp_error (k := 3) (by decide) (by decide) (by decide) ?_
      refine ev_ri k91_38 rfl ?_
      refine hQ _ _ ?_
      show mm_Ev mm_T0 X (d + 60) 196 0 [.ref 91, .int _] [] _ (mm_pi _)
      refine ev_ild1 k196_0 ?_
      refine ev_iconst k196_1 ?_
      refine ev_bipush k196_2 ?_
      refine ev_cS3i k196_4 cs_224 rfl rfl rfl ?_
      refine sp_in ?_
      refine ev_ifz_ne k196_7 (fun g7 => ?_) (fun g7 => Bool.noConfusion (Eq.trans (Eq.symm h7) g7))
      refine ev_ald0 k196_17 ?_
      refine ev_getr k196_18 (by first | assumption | rfl) rfl rfl rfl ?_
      refine ev_iconst k196_21 ?_
      refine ev_ialv (j := 0) k196_22 (by first | assumption | rfl) (by omega) rfl (vp_dec rfl) rm.2.2.2.1 ?_
      refine ev_ild1 k196_23 ?_
      refine ev_iadd k196_24 ?_
      refine ev_sipush k196_25 ?_
      refine ev_jcmp_le k196_28 (fun g28 => absurd h29 g28) (fun g28 => ?_)
      refine ev_ald0 k196_31 ?_
      refine ev_ldc k196_32 ?_
      refine ev_cV2i k196_34 cs_238 (by first | assumption | rfl) (by omega) (Nat.le_of_ble_eq_true rfl) rfl rfl rfl ?_
      refine sm_error (k := 3) (by decide) (by decide) ?_
      refine ev_ri k196_37 rfl ?_
      first | exact ⟨rfl, Inv_e rfl rfl inv⟩ | exact ⟨rfl, inv⟩
  ·
    refine ev_ald0 k91_10 ?_
    refine ev_ldc k91_11 ?_
    refine ev_cV2i k91_13 cs_174 (by first | assumption | rfl) (by omega) (Nat.le_of_ble_eq_true rfl) rfl rfl rfl ?_
    refine sp_error (k := 1) (by decide) (by decide) (by decide) ?_
    refine ev_ri k91_16 rfl ?_
    refine hQ _ _ ?_
    show mm_Ev mm_T0 X (d + 60) 196 0 [.ref 91, .int _] [] _ (mm_pi _)
    refine ev_ild1 k196_0 ?_
    refine ev_iconst k196_1 ?_
    refine ev_bipush k196_2 ?_
    refine ev_cS3i k196_4 cs_224 rfl rfl rfl ?_
    refine sp_in ?_
    refine ev_ifz_ne k196_7 (fun g7 => Bool.noConfusion (Eq.trans (Eq.symm h7) g7)) (fun g7 => ?_)
    refine ev_ald0 k196_10 ?_
    refine ev_ldc k196_11 ?_
    refine ev_cV2i k196_13 cs_238 (by first | assumption | rfl) (by omega) (Nat.le_of_ble_eq_true rfl) rfl rfl rfl ?_
    refine sm_error (k := 1) (by decide) (by decide) ?_
    refine ev_ri k196_16 rfl ?_
    first | exact ⟨rfl, Inv_e rfl rfl inv⟩ | exact ⟨rfl, inv⟩
theorem lp_loose {X : Nat × (Nat → Int32)} {d : Nat} {I N : mm_I} {nc np M : Nat} {P : Int32 → mm_I → Prop} (wf : wfS N nc np) (hM : M ≤ 60) (hQ : ∀ K, nz (cells K 11) = itD N nc np M → (∀ k, (k < 11 ∨ 31 < k) → K k = I k) → P (itD N nc np M 0 15) K) : ∀ (n i : Nat) (J : mm_I), i + n = M → nz (cells J 11) = itD N nc np i → (∀ k, (k < 11 ∨ 31 < k) → J k = I k) → mm_Ev mm_T0 X (d + 20) 92 41 [.ref 0, .int (nI M), .int (nI i)] [] J (mm_pi P) := by
  have t0 := tCV
  intro n
  induction n with
  | zero =>
    intro i J hi eJ fJ
    have e : i = M := by omega
    subst e
    refine ev_ild2 k92_41 ?_
    refine ev_ild1 k92_42 ?_
    refine ev_jcmp_ge k92_43 (fun h43 => ?_) (fun h43 => absurd h43 (nI_nlt (Nat.le_refl _) (by omega)))
    refine ev_ald0 k92_66 ?_
    refine ev_getr k92_67 (by first | assumption | rfl) rfl rfl rfl ?_
    refine ev_gfv (j := 15) k92_70 (by first | assumption | rfl) rfl rfl rfl rfl (show J 11 15 = itD N nc np i 0 15 from congrFun (congrFun eJ 0) 15) ?_
    refine ev_ri k92_73 rfl ?_
    exact hQ J eJ fJ
  | succ n ih =>
    intro i J hi eJ fJ
    have hlt : i < M := by omega
    refine ev_ild2 k92_41 ?_
    refine ev_ild1 k92_42 ?_
    refine ev_jcmp_ge k92_43 (fun h43 => absurd (nI_lt hlt (by omega)) h43) (fun h43 => ?_)
    refine ev_ald0 k92_46 ?_
    refine ev_getr k92_47 (by first | assumption | rfl) rfl rfl rfl ?_
    refine ev_cV1v k92_50 cs_200 (by first | assumption | rfl) (by omega) (Nat.le_of_ble_eq_true rfl) rfl rfl rfl ?_
    have wfi := wf_itD wf i
    have wfj := wfi
    rw [← eJ] at wfj
    have step : ∀ J1, nz (cells J1 11) = dN (itD N nc np i) np → (∀ k, (k < 11 ∨ 31 < k) → J1 k = I k) → mm_Ev mm_T0 X (d + 20) 92 53 [.ref 0, .int (nI M), .int (nI i)] [] J1 (mm_pi P) := fun J1 e1 f1 => by
      refine ev_ald0 k92_53 ?_
      refine ev_getr k92_54 (by first | assumption | rfl) rfl rfl rfl ?_
      refine ev_cV1v k92_57 cs_199 (by first | assumption | rfl) (by omega) (Nat.le_of_ble_eq_true rfl) rfl rfl rfl ?_
      refine sp_sitC hh11 e1 (wf_dN wfi) (fun K eK fK => ?_)
      refine ev_inc2 k92_60 rfl ?_
      refine ev_goto k92_63 ?_
      rw [nI_1]
      exact ih (i + 1) K (by omega) eK (fun k hk => (fK k hk).trans (f1 k hk))
    refine sp_drawSpeed hh11 wfj.1 wfj.2.1 (fun h0 => ?_) (fun h0 => ?_)
    · exact step J (by unfold dN; rw [if_pos h0]; exact eJ) fJ
    · refine step _ ?_ (fun k hk => by rw [mm_up_ne _ _ _ _ _ (by omega), mm_up_ne _ _ _ _ _ (by omega), mm_up_ne _ _ _ _ _ (by omega)]; exact fJ k hk)
      unfold dN
      rw [if_neg (by omega), show J 11 17 = itD N nc np i 0 17 from congrFun (congrFun eJ 0) 17]
      rw [nz_cup (nz_cup (nz_cup eJ 0 (by decide) 17 _) 0 (by decide) 17 _) 6 (by decide) _ _]
      rw [mm_up_up]
    skip
