/-! check, faster -/
theorem sN_19 (S : mm_I) (nc np : Nat) (x : Int32) : sN (mm_up S 19 2 x) nc np = mm_up (sN S nc np) 19 2 x := by
  have e : sit (mm_up S 19 2 x) nc np = mm_up (sit S nc np) 19 2 x := by
    funext k
    by_cases h0 : k = 0
    · subst h0; rfl
    · by_cases h8 : k = 8
      · subst h8; rfl
      · by_cases h4 : k = 4
        · subst h4; rfl
        · rw [sit_ne h0 h8 h4]
          funext j
          rw [mm_up_at, mm_up_at, sit_ne h0 h8 h4]
  unfold sN
  rw [e, nz_up _ (by decide)]
theorem itS_19 (N : mm_I) (nc np : Nat) (x : Int32) : ∀ n, itS (mm_up N 19 2 x) nc np n = mm_up (itS N nc np n) 19 2 x
  | 0 => rfl
  | n + 1 => by
    show sN (itS (mm_up N 19 2 x) nc np n) nc np = mm_up (sN (itS N nc np n) nc np) 19 2 x
    rw [itS_19 N nc np x n, sN_19]
theorem sm_sitM2 {X : Nat × (Nat → Int32)} {d : Nat} {J N : mm_I} {nc np : Nat} {P : mm_I → Prop} (H : HS N (J 92) nc np) (hQ : ∀ K, HS (sN N nc np) (K 92) nc np → (∀ k, k ≠ 92 → k ≠ 98 → k ≠ 99 → K k = J k) → (∀ j, 49 ≤ j → K 92 j = J 92 j) → P K) : mm_Ev mm_T0 X (d + 8) 194 0 (mm_ent 194 [.ref 91]) [] J (mm_pv P) :=
  sm_sitting (S := N) H.1 H.2.1 H.2.2.1 H.2.2.2.1 H.2.2.2.2.2 (fun K hK => hQ K (HS_sit H hK) hK.1 (fun j hj => hK.2.1 j (Or.inr (Or.inr hj))))
theorem HS_w0 {S : mm_I} {R : Nat → Int32} {nc np : Nat} (H : HS S R nc np) : HS (mm_up S 19 2 0) (upd R 6 0) nc np := by
  refine HS_tp H (fun k hk => mm_up_ne _ _ _ _ _ (by omega)) (fun j _ a _ => by simp [upd, a]) ?_
  obtain ⟨⟨l, tl1, tl2, tl3, tl4, tl5⟩, ⟨u, wl1, wl2, wl3, wl4, wl5⟩⟩ := H.2.2.2.2.1
  refine ⟨⟨l, tl1, tl2, tl3, by rw [show upd R 6 0 5 = R 5 from rfl]; exact tl4, fun j hj => ?_⟩, ⟨0, by omega, by rw [mm_up_at, if_neg (by omega)]; exact wl2, by rw [mm_up_at, if_pos ⟨rfl, rfl⟩]; rfl, rfl, fun j hj => absurd hj (by omega)⟩⟩
  have e : upd R 6 0 (49 + j) = R (49 + j) := by simp [upd]; omega
  rw [e]
  exact tl5 j hj
def ckG (N : mm_I) (nc np : Nat) (i : Nat) : Bool := !decide (itS N nc np (i + 1) 0 15 = N 20 i)
def ckF (N : mm_I) (nc np l : Nat) : Option Nat := fnd (ckG N nc np) l 0
def ckR : Option Nat → Int32
  | some i => 1 + nI i
  | none => 0
theorem it19 {K N : mm_I} {nc np n : Nat} (e : nz (cells K 32) = itS N nc np n) : K 51 = N 19 ∧ K 52 = N 20 :=
  ⟨(show K 51 = itS N nc np n 19 from congrFun e 19).trans (itS_ne (by decide) (by decide) (by decide) (by decide) n), (show K 52 = itS N nc np n 20 from congrFun e 20).trans (itS_ne (by decide) (by decide) (by decide) (by decide) n)⟩
theorem lp_check {X : Nat × (Nat → Int32)} {d : Nat} {J0 N : mm_I} {nc np l : Nat} {P : Int32 → mm_I → Prop} (wf : wfS N nc np) (hl : N 19 2 = nI l) (hl20 : l ≤ 20) (hQ : ∀ K m, nz (cells K 32) = itS N nc np m → (∀ k, (k < 32 ∨ 52 < k) → K k = J0 k) → P (ckR (ckF N nc np l)) K) : ∀ (n i : Nat) (J : mm_I), i + n = l → fnd (ckG N nc np) n i = ckF N nc np l → nz (cells J 32) = itS N nc np i → (∀ k, (k < 32 ∨ 52 < k) → J k = J0 k) → mm_Ev mm_T0 X (d + 20) 113 23 [.ref 0, .int (nI i)] [] J (mm_pi P) := by
  have t0 := tCV
  intro n
  induction n with
  | zero =>
    intro i J hi he eJ fJ
    have e : i = l := by omega
    subst e
    refine ev_ild1 k113_23 ?_
    refine ev_ald0 k113_24 ?_
    refine ev_getr k113_25 (by first | assumption | rfl) rfl rfl rfl ?_
    refine ev_getr k113_28 (by first | assumption | rfl) rfl rfl rfl ?_
    refine ev_gfv (j := 2) k113_31 (by first | assumption | rfl) rfl rfl rfl rfl ((congrFun (it19 eJ).1 2).trans hl) ?_
    refine ev_jcmp_ge k113_34 (fun h34 => ?_) (fun h34 => absurd h34 (nI_nlt (Nat.le_refl _) (by omega)))
    refine ev_iconst k113_75 ?_
    refine ev_ri k113_76 rfl ?_
    have z := hQ J _ eJ fJ
    rw [← he] at z
    exact z
  | succ n ih =>
    intro i J hi he eJ fJ
    have hlt : i < l := by omega
    refine ev_ild1 k113_23 ?_
    refine ev_ald0 k113_24 ?_
    refine ev_getr k113_25 (by first | assumption | rfl) rfl rfl rfl ?_
    refine ev_getr k113_28 (by first | assumption | rfl) rfl rfl rfl ?_
    refine ev_gfv (j := 2) k113_31 (by first | assumption | rfl) rfl rfl rfl rfl ((congrFun (it19 eJ).1 2).trans hl) ?_
    refine ev_jcmp_ge k113_34 (fun h34 => absurd (nI_lt hlt (by omega)) h34) (fun h34 => ?_)
    refine ev_ald0 k113_37 ?_
    refine ev_getr k113_38 (by first | assumption | rfl) rfl rfl rfl ?_
    refine ev_cV1v k113_41 cs_199 (by first | assumption | rfl) (by omega) (Nat.le_of_ble_eq_true rfl) rfl rfl rfl ?_
    refine sp_sitC hh32 eJ (wf_it wf i) (fun K eK fK => ?_)
    refine ev_ald0 k113_44 ?_
    refine ev_getr k113_45 (by first | assumption | rfl) rfl rfl rfl ?_
    refine ev_gfv (j := 15) k113_48 (by first | assumption | rfl) rfl rfl rfl rfl (show K 32 15 = itS N nc np (i + 1) 0 15 from congrFun (congrFun eK 0) 15) ?_
    refine ev_ald0 k113_51 ?_
    refine ev_getr k113_52 (by first | assumption | rfl) rfl rfl rfl ?_
    refine ev_getr k113_55 (by first | assumption | rfl) rfl rfl rfl ?_
    refine ev_ild1 k113_58 ?_
    refine ev_cV2i k113_59 cs_215 (by first | assumption | rfl) (by omega) (Nat.le_of_ble_eq_true rfl) rfl rfl rfl ?_
    refine sp_get (ra := 51) (N := 20) (n := l) rfl rfl (by decide) (((congrFun (it19 (n := i + 1) eK).1 2).trans hl)) hl20 (by decide) ?_
    rw [inB_of hlt (by omega), nI_clamp (by omega), if_pos rfl, show K (51 + 1) i = N 20 i from congrFun (it19 (n := i + 1) eK).2 i]
    refine ev_icmp_eq k113_62 (fun h62 => ?_) (fun h62 => ?_)
    ·
      refine ev_inc1 k113_69 rfl ?_
      refine ev_goto k113_72 ?_
      have e : fnd (ckG N nc np) (n + 1) i = fnd (ckG N nc np) n (i + 1) := if_neg (show ¬ ckG N nc np i = true from by unfold ckG; rw [decide_eq_true h62]; decide)
      rw [nI_1]
      exact ih (i + 1) K (by omega) (e.symm.trans he) eK (fun k hk => (fK k hk).trans (fJ k hk))
    ·
      refine ev_iconst k113_65 ?_
      refine ev_ild1 k113_66 ?_
      refine ev_iadd k113_67 ?_
      refine ev_ri k113_68 rfl ?_
      have e : fnd (ckG N nc np) (n + 1) i = some i := if_pos (show ckG N nc np i = true from by unfold ckG; rw [decide_eq_false h62]; rfl)
      rw [e] at he
      have z := hQ K (i + 1) eK (fun k hk => (fK k hk).trans (fJ k hk))
      rw [← he] at z
      exact z
theorem lm_ck1 {X : Nat × (Nat → Int32)} {d : Nat} {J : mm_I} {x w y : Int32} {Q : Option Value → mm_I → Prop} (hw : ¬ w = 0) (h : mm_Ev mm_T0 X d 240 69 [.ref 91, .int x, .int w, .int y] [] J Q) : mm_Ev mm_T0 X d 240 24 [.ref 91, .int x, .int w, .int y] [] J Q := by
  refine ev_ild3 k240_24 ?_
  refine ev_ild1 k240_25 ?_
  refine ev_jcmp_ge k240_26 (fun h26 => ?_) (fun h26 => ?_)
  ·
    exact h
  ·
    refine ev_ild2 k240_29 ?_
    refine ev_if_ne k240_30 (fun h30 => ?_) (fun h30 => absurd h30 hw)
    exact h
theorem lm_check {X : Nat × (Nat → Int32)} {d : Nat} {I N : mm_I} {nc np l : Nat} {P : Int32 → mm_I → Prop} (hl20 : l ≤ 20) (hw : ∀ i, i < l → I 92 (99 + i) = N 20 i) (hQ : ∀ K v3, (∀ k, k ≠ 92 → k ≠ 98 → k ≠ 99 → K k = I k) → mm_Ev mm_T0 X (d + 20) 240 69 [.ref 91, .int (nI l), .int (ckR (ckF N nc np l)), v3] [] K (mm_pi P)) : ∀ (n i : Nat) (J : mm_I), i + n = l → fnd (ckG N nc np) n i = ckF N nc np l → HS (mm_up (itS N nc np i) 19 2 0) (J 92) nc np → (∀ k, k ≠ 92 → k ≠ 98 → k ≠ 99 → J k = I k) → (∀ j, 49 ≤ j → J 92 j = I 92 j) → mm_Ev mm_T0 X (d + 20) 240 24 [.ref 91, .int (nI l), .int 0, .int (nI i)] [] J (mm_pi P) := by
  have tm := tM
  have tr := tR
  intro n
  induction n with
  | zero =>
    intro i J hi he H hf h49
    have e : i = l := by omega
    subst e
    refine ev_ild3 k240_24 ?_
    refine ev_ild1 k240_25 ?_
    refine ev_jcmp_ge k240_26 (fun h26 => ?_) (fun h26 => absurd h26 (nI_nlt (Nat.le_refl _) (by omega)))
    have z := hQ J (.int (nI i)) hf
    rw [← he] at z
    exact z
  | succ n ih =>
    intro i J hi he H hf h49
    have hlt : i < l := by omega
    refine ev_ild3 k240_24 ?_
    refine ev_ild1 k240_25 ?_
    refine ev_jcmp_ge k240_26 (fun h26 => absurd (nI_lt hlt (by omega)) h26) (fun h26 => ?_)
    refine ev_ild2 k240_29 ?_
    refine ev_if_ne k240_30 (fun h30 => absurd rfl h30) (fun h30 => ?_)
    refine ev_ald0 k240_33 ?_
    refine ev_cV1v k240_34 cs_265 (by first | assumption | rfl) (by omega) (Nat.le_of_ble_eq_true rfl) rfl rfl rfl ?_
    refine sm_sitM2 H (fun K HK hK hj => ?_)
    rw [sN_19] at HK
    refine ev_ald0 k240_37 ?_
    refine ev_getr k240_38 (by first | assumption | rfl) rfl rfl rfl ?_
    refine ev_bipush k240_41 ?_
    refine ev_ild3 k240_43 ?_
    refine ev_iadd k240_44 ?_
    rw [show (99 : Int32) + nI i = nI (99 + i) from nI_add 99 i]
    refine ev_ialv (j := (99 + i)) k240_45 (by first | assumption | rfl) (by omega) (nI_clamp (by omega)) (vp_in_nI (show 99 + i < 321 by omega) (by omega)) ((hj (99 + i) (by omega)).trans ((h49 (99 + i) (by omega)).trans (hw i hlt))) ?_
    refine ev_ald0 k240_46 ?_
    refine ev_getr k240_47 (by first | assumption | rfl) rfl rfl rfl ?_
    refine ev_iconst k240_50 ?_
    refine ev_ialv (j := 4) k240_51 (by first | assumption | rfl) (by omega) rfl (vp_dec rfl) (show _ = itS N nc np (i + 1) 0 15 from HK.1.2.2.2.2.2) ?_
    refine ev_icmp_ne k240_52 (fun h52 => ?_) (fun h52 => ?_)
    ·
      refine ev_iconst k240_59 ?_
      refine ev_ild3 k240_60 ?_
      refine ev_iadd k240_61 ?_
      refine ev_ist2 k240_62 rfl ?_
      refine ev_inc3 k240_63 rfl ?_
      refine ev_goto k240_66 ?_
      have e : fnd (ckG N nc np) (n + 1) i = some i := if_pos (show ckG N nc np i = true from by unfold ckG; rw [decide_eq_false (fun z => h52 z.symm)]; rfl)
      rw [e] at he
      have z := hQ K (.int (nI i + 1)) (fun k a b c => (hK k a b c).trans (hf k a b c))
      rw [← he] at z
      refine lm_ck1 (fun q => ?_) z
      rw [show (1 : Int32) + nI i = nI (1 + i) from nI_add 1 i] at q
      exact nI_ne0 (by omega) (by omega) q
    ·
      refine ev_iconst k240_55 ?_
      refine ev_goto k240_56 ?_
      refine ev_ist2 k240_62 rfl ?_
      refine ev_inc3 k240_63 rfl ?_
      refine ev_goto k240_66 ?_
      have e : fnd (ckG N nc np) (n + 1) i = fnd (ckG N nc np) n (i + 1) := if_neg (show ¬ ckG N nc np i = true from by unfold ckG; rw [decide_eq_true h52.symm]; decide)
      rw [nI_1]
      exact ih (i + 1) K (by omega) (e.symm.trans he) HK (fun k a b c => (hK k a b c).trans (hf k a b c)) (fun j h => (hj j h).trans (h49 j h))
/-- CV.check -/
theorem op_check {X : Nat × (Nat → Int32)} {d : Nat} {I : mm_I} {P : Int32 → mm_I → Prop}  (inv : Inv I) (hQ : ∀ v J, mm_Ev mm_T0 X (d + 60) 240 0 (mm_ent 240 [.ref 91]) [] J (mm_pi fun w K => w = v ∧ Inv K) → P v J) : mm_Ev mm_T0 X (d + 60) 113 0 (mm_ent 113 [.ref 0]) [] I (mm_pi P) := by
  show mm_Ev mm_T0 X (d + 60) 113 0 [.ref 0, .retAddr 0] [] I (mm_pi P)
  obtain ⟨nc, np, hs⟩ := inv.1
  obtain ⟨c1, n6, p1, p6, rc, rp, rm, ok, sr, tt⟩ := hsF hs
  have t0 := tCV
  have tm := tM
  have tr := tR
  refine ev_ald0 k113_0 ?_
  refine ev_getr k113_1 (by first | assumption | rfl) rfl rfl rfl ?_
  refine ev_ald0 k113_4 ?_
  refine ev_getr k113_5 (by first | assumption | rfl) rfl rfl rfl ?_
  refine ev_cV2v k113_8 cs_201 (by first | assumption | rfl) (by omega) (Nat.le_of_ble_eq_true rfl) rfl rfl rfl ?_
  refine sp_copyH hh32 hh11 (by decide) hs inv.2.2.2.2.2.2.2.1 (fun J HJ fJ f9 f13 => ?_)
  have tJ : tF I J := ⟨fJ, f9, f13⟩
  have wfJ := wf_nz (HS_wf HJ)
  obtain ⟨l, wl1, wl2, wl3, wl4, wl5⟩ := HJ.2.2.2.2.1.2
  refine ev_ald0 k113_11 ?_
  refine ev_getr k113_12 (by first | assumption | rfl) rfl rfl rfl ?_
  refine ev_getr k113_15 (by first | assumption | rfl) rfl rfl rfl ?_
  refine ev_cV1v k113_18 cs_188 (by first | assumption | rfl) (by omega) (Nat.le_of_ble_eq_true rfl) rfl rfl rfl ?_
  refine sp_clear (ra := 30) rfl ?_
  refine ev_iconst k113_21 ?_
  refine ev_ist1 k113_22 rfl ?_
  refine lp_check (J0 := mm_up J 30 2 0) (N := nz (cells J 32)) (nc := nc) (np := np) wfJ wl3 wl1 (fun K m eK fK => ?_) l 0 _ (by omega) rfl (nz_eq (fun k _ _ _ _ => mm_up_ne _ _ _ _ _ (by omega))) (fun _ _ => rfl)
  have f92 : K 92 = I 92 := (fK 92 (by omega)).trans ((mm_up_ne _ _ _ _ _ (by decide)).trans (tJ.1 92 (by omega)))
  refine hQ _ _ ?_
  show mm_Ev mm_T0 X (d + 60) 240 0 [.ref 91, .retAddr 0, .retAddr 0, .retAddr 0] [] _ (mm_pi _)
  refine ev_ald0 k240_0 ?_
  refine ev_getr k240_1 (by first | assumption | rfl) rfl rfl rfl ?_
  refine ev_bipush k240_4 ?_
  refine ev_ialv (j := 6) k240_6 (by first | assumption | rfl) (by omega) rfl (vp_dec rfl) ((congrFun f92 6).trans wl4) ?_
  refine ev_ist1 k240_7 rfl ?_
  refine ev_ald0 k240_8 ?_
  refine ev_getr k240_9 (by first | assumption | rfl) rfl rfl rfl ?_
  refine ev_bipush k240_12 ?_
  refine ev_iconst k240_14 ?_
  refine ev_ias (j := 6) k240_15 (by first | assumption | rfl) rfl (vp_dec rfl) ?_
  refine ev_ald0 k240_16 ?_
  refine ev_cV1v k240_17 cs_269 (by first | assumption | rfl) (by omega) (Nat.le_of_ble_eq_true rfl) rfl rfl rfl ?_
  refine sm_thinks ?_
  refine ev_iconst k240_20 ?_
  refine ev_ist2 k240_21 rfl ?_
  refine ev_iconst k240_22 ?_
  refine ev_ist3 k240_23 rfl ?_
  refine lm_check (N := nz (cells J 32)) (nc := nc) (np := np) wl1 (fun i hi => ?_) (fun L v3 fL => ?_) l 0 _ (by omega) rfl ?_ (fun _ _ _ _ => rfl) (fun _ _ => rfl)
  · rw [cpA_ne (by decide), mm_up_at, if_neg (by omega), f92]
    exact (wl5 i hi).symm
  rotate_left
  · show HS (mm_up (nz (cells J 32)) 19 2 0) (cpA (mm_up K 92 6 0) 92 94 321 92) nc np
    refine HS_congr (fun _ _ _ _ _ => rfl) (fun j _ => ?_) (HS_w0 (HS_nz HJ))
    rw [cpA_ne (by decide), mm_up_at, f92]
    by_cases z : j = 6
    · subst z; simp [upd]
    · rw [if_neg (fun w => z w.2)]; simp [upd, z]
  refine ev_ald0 k240_69 ?_
  refine ev_cV1v k240_70 cs_270 (by first | assumption | rfl) (by omega) (Nat.le_of_ble_eq_true rfl) rfl rfl rfl ?_
  refine sm_putsBack ?_
  refine ev_ild2 k240_73 ?_
  refine ev_ri k240_74 rfl ?_
  have b1 := (th_bk fL).1
  have b2 := (th_bk fL).2
  generalize cpA L 94 92 321 = M at b1 b2 ⊢
  have k1 : ∀ k, k ≠ 30 → (k < 32 ∨ 52 < k) → K k = I k := fun k a b => by rw [fK k b, mm_up_ne _ _ _ _ _ a, tJ.1 k b]
  have z1 := it19 eK
  refine ⟨rfl, Inv_H inv (fun k hk => ?_) (HS_congr (fun k hk _ _ _ => ?_) (fun j hj => ?_) (HS_w0 hs))⟩
  · rw [b1 k (by omega) (by omega) (by omega) (by omega), mm_up_ne _ _ _ _ _ (by omega)]
    by_cases q1 : k = 41
    · have z := congrFun eK 9
      rw [itS_ne (by decide) (by decide) (by decide) (by decide)] at z
      rw [q1]; exact (show K 41 = J 41 from z).trans tJ.2.1
    · by_cases q2 : k = 45
      · have z := congrFun eK 13
        rw [itS_ne (by decide) (by decide) (by decide) (by decide)] at z
        rw [q2]; exact (show K 45 = J 45 from z).trans tJ.2.2
      · exact k1 k (by omega) (by omega)
  · show M (11 + k) = _
    rw [b1 _ (by omega) (by omega) (by omega) (by omega), mm_up_ne _ _ _ _ _ (by omega), fK _ (by omega)]
    funext j
    rw [mm_up_at, mm_up_at, tJ.1 _ (by omega)]
    by_cases z : k = 19 ∧ j = 2
    · rw [if_pos (by omega), if_pos z]
    · rw [if_neg (by omega), if_neg z]; rfl
  · rw [b2 j hj, mm_up_at, f92]
    by_cases z : j = 6
    · subst z; simp [upd]
    · rw [if_neg (fun w => z w.2)]; simp [upd, z]
theorem hRn_8 {S S' : mm_I} {nc np : Nat} (sp : ∀ p, p < np → (-1 : Int32) < S 6 p) (hnp : np ≤ 6) (h : ∀ k, k ≠ 8 → S' k = S k) : ∀ p, p < np → hRn S' 0 nc np p = hRn S 0 nc np p := by
  have h64 := pow64 hnp
  have key : ∀ (n i r : Nat) (t : Int32) (a a' : Nat → Int32), i + n = np → r < 2 ^ np → cnt r = i → (∀ p, p < np → iB (nI r) (nI p) = true → a' p = a p) → ∀ p, p < np → (fo (fun _ q => hRs S' 0 nc np q) n i (nI r, t, a')).2.2 p = (fo (fun _ q => hRs S 0 nc np q) n i (nI r, t, a)).2.2 p := by
    intro n
    induction n with
    | zero =>
      intro i r t a a' hi hr hc h1 p hp
      have e : r = 2 ^ np - 1 := by
        have z := (set_full ⟨np, by omega⟩ ⟨r, by omega⟩ hr).1 (by show cnt r = np; omega)
        dsimp only at z
        omega
      subst e
      exact h1 p hp (set_all ⟨np, by omega⟩ ⟨p, by omega⟩ hp)
    | succ n ih =>
      intro i r t a a' hi hr hc h1
      obtain ⟨nz, p0, hp0, hp0f⟩ := (set_full ⟨np, by omega⟩ ⟨r, by omega⟩ hr).2 (by show cnt r < np; omega)
      obtain ⟨w, hw1, hw2, hw3⟩ := hFb_new sp hnp ⟨p0.val, hp0, hp0f⟩
      dsimp only at hw2 hw3
      obtain ⟨st1, st2, st3, st4⟩ := set_step ⟨np, by omega⟩ ⟨r, by omega⟩ ⟨w, by omega⟩ hw1 hr hw3
      dsimp only at st1 st2 st3 st4
      have sa : ∀ q, q < np → iB (nI (r + 2 ^ w)) (nI q) = (iB (nI r) (nI q) || decide (w = q)) := fun q hq => set_add ⟨r, by omega⟩ ⟨w, by omega⟩ ⟨q, by omega⟩ hw3
      have e6 : hRs S 0 nc np (nI r, t, a) = (nI (r + 2 ^ w), (if hDt S 0 nc w t = -1 then t else t ||| (1 <<< (hDt S 0 nc w t &&& 31))), upd a w (hDt S 0 nc w t)) := by
        unfold hRs
        dsimp only
        rw [hw2, nI_clamp (by omega), st1]
      have f1 : hFb S' 0 np (nI r) = nI w := (hFb_congr (h (0 + 6) (by decide))).trans hw2
      have f2 : hDt S' 0 nc w t = hDt S 0 nc w t := hDt_congr (fun k _ b _ _ => h k b)
      have e7 : hRs S' 0 nc np (nI r, t, a') = (nI (r + 2 ^ w), (if hDt S 0 nc w t = -1 then t else t ||| (1 <<< (hDt S 0 nc w t &&& 31))), upd a' w (hDt S 0 nc w t)) := by
        unfold hRs
        dsimp only
        rw [f1, nI_clamp (by omega), st1, f2]
      show ∀ p, p < np → (fo (fun _ q => hRs S' 0 nc np q) n (i + 1) (hRs S' 0 nc np (nI r, t, a'))).2.2 p = (fo (fun _ q => hRs S 0 nc np q) n (i + 1) (hRs S 0 nc np (nI r, t, a))).2.2 p
      rw [e6, e7]
      refine ih (i + 1) (r + 2 ^ w) _ _ _ (by omega) st3 (by omega) (fun p hp hb => ?_)
      by_cases hpw : p = w
      · simp [upd, hpw]
      · rw [sa p hp] at hb
        have : ¬ w = p := fun z => hpw z.symm
        simp only [this, decide_false, Bool.or_false] at hb
        simp only [upd, if_neg hpw]
        exact h1 p hp hb
  have z0 : ∀ p : Fin 6, iB (nI 0) (nI p.val) = false := by decide +kernel
  exact key np 0 0 0 (S 8) (S' 8) (by omega) (Nat.pow_pos (by decide)) rfl (fun p hp hb => by rw [z0 ⟨p, by omega⟩] at hb; cases hb)
theorem mm_up_id (S : mm_I) (k j : Nat) : mm_up S k j (S k j) = S := by
  funext k' j'
  rw [mm_up_at]
  split
  · rename_i h; rw [h.1, h.2]
  · rfl
theorem wf_sp {S : mm_I} {nc np p x : Nat} (hx : x < 100) (H : wfS S nc np) : wfS (mm_up S 6 p (nI x)) nc np := by
  have z := wf_mem0 (p := p) (z := S 0 17) hx H
  rw [mm_up_id] at z
  exact z
/-- the house of a thought: all but one's speed and who is at what -/
def fsE (N S : mm_I) (p : Nat) : Prop := (∀ k, k ≠ 8 → k ≠ 6 → S k = N k) ∧ ∀ q, q ≠ p → S 6 q = N 6 q
def fsG (N : mm_I) (nc np p : Nat) (c : Int32) (i : Nat) : Bool := decide (hRn (mm_up N 6 p (nI i)) 0 nc np p = c)
def fsF (N : mm_I) (nc np p : Nat) (c : Int32) : Option Nat := fnd (fsG N nc np p c) 100 0
theorem fs_eq {N S : mm_I} {nc np p i : Nat} (h : fsE N S p) (wf : wfS S nc np) (hi : i < 100) (hp : p < np) : hRn (mm_up S 6 p (nI i)) 0 nc np p = hRn (mm_up N 6 p (nI i)) 0 nc np p ∧ fsE N (rN (mm_up S 6 p (nI i)) nc np) p ∨ ¬ ∀ k, 20 < k ∨ k = 5 ∨ k = 12 ∨ k = 16 → N k = fun _ => 0 := by
  by_cases hN : ∀ k, 20 < k ∨ k = 5 ∨ k = 12 ∨ k = 16 → N k = fun _ => 0
  · left
    have e : ∀ k, k ≠ 8 → mm_up S 6 p (nI i) k = mm_up N 6 p (nI i) k := fun k hk => by
      funext j
      rw [mm_up_at, mm_up_at]
      by_cases z : k = 6 ∧ j = p
      · rw [if_pos z, if_pos z]
      · rw [if_neg z, if_neg z]
        by_cases z2 : k = 6
        · rw [z2]; exact h.2 j (fun w => z ⟨z2, w⟩)
        · rw [h.1 k hk z2]
    have wf2 := wf_sp (p := p) hi wf
    refine ⟨(hRn_8 (fun q hq => spd wf2.2.2.2.1 hq) wf2.2.1 (fun k hk => (e k hk).symm) p hp).symm, fun k h8 h6 => ?_, fun q hq => ?_⟩
    · by_cases z : k ≤ 20 ∧ k ≠ 5 ∧ k ≠ 12 ∧ k ≠ 16
      · rw [rN_ne h8 z, mm_up_ne _ _ _ _ _ h6]; exact h.1 k h8 h6
      · rw [hN k (by omega)]
        exact if_neg z
    · rw [rN_ne (by decide) (by decide), mm_up_at, if_neg (fun w => hq w.2)]
      exact h.2 q hq
  · exact Or.inr hN
theorem nz_0 (S : mm_I) : ∀ k, 20 < k ∨ k = 5 ∨ k = 12 ∨ k = 16 → nz S k = fun _ => 0 := fun k h => if_neg (by omega)
theorem lp_faster {X : Nat × (Nat → Int32)} {d : Nat} {J0 N : mm_I} {nc np p : Nat} {c : Int32} {P : Int32 → mm_I → Prop} (hN : ∀ k, 20 < k ∨ k = 5 ∨ k = 12 ∨ k = 16 → N k = fun _ => 0) (hp : p < np) (hp6 : np ≤ 6) (hQ : ∀ K, fsE N (nz (cells K 32)) p → (∀ k, (k < 32 ∨ 52 < k) → K k = J0 k) → P (wnR (fsF N nc np p c)) (wnS (fsF N nc np p c) K)) : ∀ (n i : Nat) (J : mm_I), i + n = 100 → fnd (fsG N nc np p c) n i = fsF N nc np p c → fsE N (nz (cells J 32)) p → wfS (nz (cells J 32)) nc np → (∀ k, (k < 32 ∨ 52 < k) → J k = J0 k) → mm_Ev mm_T0 X (d + 20) 100 36 [.ref 0, .int (nI p), .int c, .int (nI i)] [] J (mm_pi P) := by
  have t0 := tCV
  intro n
  induction n with
  | zero =>
    intro i J hi he eJ wf fJ
    have e : i = 100 := by omega
    subst e
    refine ev_ild3 k100_36 ?_
    refine ev_bipush k100_37 ?_
    refine ev_icmp_gt k100_39 (fun h39 => ?_) (fun h39 => absurd (show (99 : Int32) < nI 100 by decide) h39)
    refine ev_ald0 k100_80 ?_
    refine ev_ldc k100_81 ?_
    refine ev_cV2i k100_83 cs_174 (by first | assumption | rfl) (by omega) (Nat.le_of_ble_eq_true rfl) rfl rfl rfl ?_
    refine sp_error (k := 2) (by decide) (by decide) (by decide) ?_
    refine ev_ri k100_86 rfl ?_
    have z := hQ J eJ fJ
    rw [← he] at z
    exact z
  | succ n ih =>
    intro i J hi he eJ wf fJ
    have hlt : i < 100 := by omega
    refine ev_ild3 k100_36 ?_
    refine ev_bipush k100_37 ?_
    refine ev_icmp_gt k100_39 (fun h39 => absurd ((nI_ltI (show 99 < 2 ^ 31 by decide) (show i < 2 ^ 31 by omega)).mp (show nI 99 < nI i from h39)) (by omega)) (fun h39 => ?_)
    refine ev_ald0 k100_42 ?_
    refine ev_getr k100_43 (by first | assumption | rfl) rfl rfl rfl ?_
    refine ev_getr k100_46 (by first | assumption | rfl) rfl rfl rfl ?_
    refine ev_ild1 k100_49 ?_
    refine ev_ild3 k100_50 ?_
    refine ev_ias (j := p) k100_51 (by first | assumption | rfl) (nI_clamp (by omega)) (vp_in_nI (show p < 6 by omega) (by omega)) ?_
    refine ev_ald0 k100_52 ?_
    refine ev_getr k100_53 (by first | assumption | rfl) rfl rfl rfl ?_
    refine ev_cV1v k100_56 cs_197 (by first | assumption | rfl) (by omega) (Nat.le_of_ble_eq_true rfl) rfl rfl rfl ?_
    obtain ⟨e1, e2⟩ := (fs_eq eJ wf hlt hp).resolve_right (fun z => z hN)
    refine sp_runC hh32 (N := mm_up (nz (cells J 32)) 6 p (nI i)) (nz_cup rfl 6 (by decide) _ _) (wf_sp hlt wf) (fun K eK fK => ?_)
    rw [← eK] at e2
    have fK2 : ∀ k, (k < 32 ∨ 52 < k) → K k = J0 k := fun k hk => by rw [fK k hk, mm_up_ne _ _ _ _ _ (by omega)]; exact fJ k hk
    have wfK := wf_rN (wf_sp (p := p) hlt wf)
    rw [← eK] at wfK
    refine ev_ald0 k100_59 ?_
    refine ev_getr k100_60 (by first | assumption | rfl) rfl rfl rfl ?_
    refine ev_getr k100_63 (by first | assumption | rfl) rfl rfl rfl ?_
    refine ev_ild1 k100_66 ?_
    refine ev_ialv (j := p) k100_67 (by first | assumption | rfl) (by omega) (nI_clamp (by omega)) (vp_in_nI (show p < 6 by omega) (by omega)) ((congrFun (show K 40 = rN (mm_up (nz (cells J 32)) 6 p (nI i)) nc np 8 from congrFun eK 8) p).trans e1) ?_
    refine ev_ild2 k100_68 ?_
    refine ev_icmp_ne k100_69 (fun h69 => ?_) (fun h69 => ?_)
    ·
      refine ev_inc3 k100_74 rfl ?_
      refine ev_goto k100_77 ?_
      have e : fnd (fsG N nc np p c) (n + 1) i = fnd (fsG N nc np p c) n (i + 1) := if_neg (fun z => h69 (of_decide_eq_true z))
      rw [nI_1]
      exact ih (i + 1) K (by omega) (e.symm.trans he) e2 wfK fK2
    ·
      refine ev_ild3 k100_72 ?_
      refine ev_ri k100_73 rfl ?_
      have e : fnd (fsG N nc np p c) (n + 1) i = some i := if_pos (decide_eq_true h69)
      rw [e] at he
      have z := hQ K e2 fK2
      rw [← he] at z
      exact z
def fsR : Option Nat → Int32
  | some m => nI m
  | none => -1
theorem lm_faster {X : Nat × (Nat → Int32)} {d : Nat} {I N : mm_I} {nc np p : Nat} {c : Int32} {P : Int32 → mm_I → Prop} (hp : p < np) (hp6 : np ≤ 6) (H : HS N (I 92) nc np) (h94 : ∀ j, j < 321 → I 94 j = I 92 j) (hQ : ∀ K, (∀ k, k ≠ 92 → k ≠ 98 → k ≠ 99 → K k = I k) → (∀ j, j < 321 → K 92 j = I 92 j) → mm_Ev mm_T0 X (d + 20) 213 77 [.ref 91, .int (nI p), .int c, .int (fsR (fsF N nc np p c)), .int (nI 0 + (-1))] [] K (mm_pi P)) : ∀ (n : Nat) (J : mm_I), n ≤ 100 → (∀ k, k ≠ 92 → k ≠ 98 → k ≠ 99 → J k = I k) → (∀ j, j < 321 → J 92 j = I 92 j) → mm_Ev mm_T0 X (d + 20) 213 33 [.ref 91, .int (nI p), .int c, .int (fsR (fnd (fsG N nc np p c) (100 - n) n)), .int (nI n + (-1))] [] J (mm_pi P) := by
  have tm := tM
  have tr := tR
  intro n
  induction n with
  | zero =>
    intro J hn hf hb
    refine ev_ild4 k213_33 ?_
    refine ev_if_lt k213_35 (fun h35 => ?_) (fun h35 => absurd (show nI 0 + (-1) < (0 : Int32) by decide) h35)
    exact hQ J hf hb
  | succ n ih =>
    intro J hn hf hb
    refine ev_ild4 k213_33 ?_
    rw [pk_m1]
    refine ev_if_lt k213_35 (fun h35 => absurd h35 (nI_pos (by omega))) (fun h35 => ?_)
    refine ev_ald0 k213_38 ?_
    refine ev_ild1 k213_39 ?_
    refine ev_iconst k213_40 ?_
    refine ev_ild4 k213_41 ?_
    refine ev_cV4v k213_43 cs_244 (by first | assumption | rfl) (by omega) (Nat.le_of_ble_eq_true rfl) rfl rfl rfl ?_
    refine sm_lets (w := 0) (show p < 6 by omega) (by decide) ?_
    refine ev_ald0 k213_46 ?_
    refine ev_cV1v k213_47 cs_264 (by first | assumption | rfl) (by omega) (Nat.le_of_ble_eq_true rfl) rfl rfl rfl ?_
    refine sm_runM (N := mm_up N 6 p (nI n)) (nc := nc) (np := np) (show HS _ (mm_up J 92 (31 + 3 * p + 0) (nI n) 92) nc np from HS_congr (fun _ _ _ _ _ => rfl) (fun j _ => by rw [mm_up_at]; by_cases z : j = 31 + 3 * p + 0 <;> simp [upd, z]) (HS_member (w := 0) (v := nI n) (by decide) hp (fun _ => ⟨n, by omega, rfl⟩) (fun z => absurd z (by decide)) (fun z => absurd z (by decide)) (HS_congr (fun _ _ _ _ _ => rfl) (fun j hj => (hb j hj)) H))) (fun L HL fL => ?_)
    refine ev_ald0 k213_50 ?_
    refine ev_ild1 k213_51 ?_
    refine ev_iconst k213_52 ?_
    refine ev_cV3i k213_53 cs_225 (by first | assumption | rfl) (by omega) (Nat.le_of_ble_eq_true rfl) rfl rfl rfl ?_
    refine sm_aboutv (w := 2) (v := hRn (mm_up N 6 p (nI n)) 0 nc np p) (show p < 6 by omega) (by decide) (HL.1.2.2.1 p hp).2.2 ?_
    refine ev_ild2 k213_56 ?_
    refine ev_icmp_ne k213_57 (fun h57 => ?_) (fun h57 => ?_)
    ·
      refine ev_ild3 k213_65 ?_
      refine ev_ist3 k213_66 rfl ?_
      refine ev_ald0 k213_67 ?_
      refine ev_cV1v k213_68 cs_270 (by first | assumption | rfl) (by omega) (Nat.le_of_ble_eq_true rfl) rfl rfl rfl ?_
      refine sm_putsBack ?_
      refine ev_inc4 k213_71 rfl ?_
      refine ev_goto k213_74 ?_
      have f2 : ∀ k, k ≠ 92 → k ≠ 98 → k ≠ 99 → cpA L 94 92 321 k = I k := fun k a b c => by rw [cpA_ne a, fL k a b c, mm_up_ne _ _ _ _ _ a, hf k a b c]
      have b2 : ∀ j, j < 321 → cpA L 94 92 321 92 j = I 92 j := fun j hj => by rw [cpA_at hj, fL 94 (by decide) (by decide) (by decide), mm_up_ne _ _ _ _ _ (by decide), hf 94 (by decide) (by decide) (by decide)]; exact h94 j hj
      have e : fnd (fsG N nc np p c) (100 - n) n = fnd (fsG N nc np p c) (99 - n) (n + 1) := by
        rw [show 100 - n = 99 - n + 1 from by omega]
        exact if_neg (fun z => h57 (of_decide_eq_true z))
      rw [show fnd (fsG N nc np p c) (100 - (n + 1)) (n + 1) = fnd (fsG N nc np p c) (100 - n) n from by rw [e, show 100 - (n + 1) = 99 - n from by omega]]
      exact ih _ (by omega) f2 b2
    ·
      refine ev_ild4 k213_60 ?_
      refine ev_goto k213_62 ?_
      refine ev_ist3 k213_66 rfl ?_
      refine ev_ald0 k213_67 ?_
      refine ev_cV1v k213_68 cs_270 (by first | assumption | rfl) (by omega) (Nat.le_of_ble_eq_true rfl) rfl rfl rfl ?_
      refine sm_putsBack ?_
      refine ev_inc4 k213_71 rfl ?_
      refine ev_goto k213_74 ?_
      have f2 : ∀ k, k ≠ 92 → k ≠ 98 → k ≠ 99 → cpA L 94 92 321 k = I k := fun k a b c => by rw [cpA_ne a, fL k a b c, mm_up_ne _ _ _ _ _ a, hf k a b c]
      have b2 : ∀ j, j < 321 → cpA L 94 92 321 92 j = I 92 j := fun j hj => by rw [cpA_at hj, fL 94 (by decide) (by decide) (by decide), mm_up_ne _ _ _ _ _ (by decide), hf 94 (by decide) (by decide) (by decide)]; exact h94 j hj
      have e : fnd (fsG N nc np p c) (100 - n) n = some n := by
        rw [show 100 - n = 99 - n + 1 from by omega]
        exact if_pos (decide_eq_true h57)
      have z := ih _ (by omega) f2 b2
      rw [e] at z
      exact z
/-- CV.faster -/
theorem op_faster {X : Nat × (Nat → Int32)} {d : Nat} {I : mm_I} {P : Int32 → mm_I → Prop} {a : Int32} {b : Int32} (inv : Inv I) (hQ : ∀ v J, mm_Ev mm_T0 X (d + 60) 213 0 (mm_ent 213 [.ref 91, .int a, .int b]) [] J (mm_pi fun w K => w = v ∧ Inv K) → P v J) : mm_Ev mm_T0 X (d + 60) 100 0 (mm_ent 100 [.ref 0, .int a, .int b]) [] I (mm_pi P) := by
  show mm_Ev mm_T0 X (d + 60) 100 0 [.ref 0, .int a, .int b, .retAddr 0] [] I (mm_pi P)
  obtain ⟨nc, np, hs⟩ := inv.1
  obtain ⟨c1, n6, p1, p6, rc, rp, rm, ok, sr, tt⟩ := hsF hs
  have t0 := tCV
  have tm := tM
  have tr := tR
  refine ev_ald0 k100_0 ?_
  refine ev_ild1 k100_1 ?_
  refine ev_cV2i k100_2 cs_183 (by first | assumption | rfl) (by omega) (Nat.le_of_ble_eq_true rfl) rfl rfl rfl ?_
  refine sp_cMember p1 ?_
  refine ev_ifz_eq k100_5 (fun h5 => ?_) (fun h5 => ?_)
  ·
    refine ev_ald0 k100_16 ?_
    refine ev_ldc k100_17 ?_
    refine ev_cV2i k100_19 cs_174 (by first | assumption | rfl) (by omega) (Nat.le_of_ble_eq_true rfl) rfl rfl rfl ?_
    refine sp_error (k := 1) (by decide) (by decide) (by decide) ?_
    refine ev_ri k100_22 rfl ?_
    refine hQ _ _ ?_
    show mm_Ev mm_T0 X (d + 60) 213 0 [.ref 91, .int _, .int _, .retAddr 0, .retAddr 0] [] _ (mm_pi _)
    refine ev_ald0 k213_0 ?_
    refine ev_ild1 k213_1 ?_
    refine ev_cV2i k213_2 cs_245 (by first | assumption | rfl) (by omega) (Nat.le_of_ble_eq_true rfl) rfl rfl rfl ?_
    refine sm_cMember (show _ = nI np from rp) ?_
    refine ev_ifz_eq k213_5 (fun g5 => ?_) (fun g5 => Bool.noConfusion (Eq.trans (Eq.symm h5) g5))
    refine ev_ald0 k213_16 ?_
    refine ev_ldc k213_17 ?_
    refine ev_cV2i k213_19 cs_238 (by first | assumption | rfl) (by omega) (Nat.le_of_ble_eq_true rfl) rfl rfl rfl ?_
    refine sm_error (k := 1) (by decide) (by decide) ?_
    refine ev_ri k213_22 rfl ?_
    first | exact ⟨rfl, Inv_e rfl rfl inv⟩ | exact ⟨rfl, inv⟩
  ·
    obtain ⟨p, hp, rfl⟩ := wB_in (n := np) (by omega) h5
    refine ev_ald0 k100_8 ?_
    refine ev_ild2 k100_9 ?_
    refine ev_cV2i k100_10 cs_176 (by first | assumption | rfl) (by omega) (Nat.le_of_ble_eq_true rfl) rfl rfl rfl ?_
    refine sp_cChair c1 ?_
    refine ev_ifz_ne k100_13 (fun h13 => ?_) (fun h13 => ?_)
    ·
      refine ev_ald0 k100_23 ?_
      refine ev_getr k100_24 (by first | assumption | rfl) rfl rfl rfl ?_
      refine ev_ald0 k100_27 ?_
      refine ev_getr k100_28 (by first | assumption | rfl) rfl rfl rfl ?_
      refine ev_cV2v k100_31 cs_201 (by first | assumption | rfl) (by omega) (Nat.le_of_ble_eq_true rfl) rfl rfl rfl ?_
      refine sp_copyH hh32 hh11 (by decide) hs inv.2.2.2.2.2.2.2.1 (fun J HJ fJ f9 f13 => ?_)
      have tJ : tF I J := ⟨fJ, f9, f13⟩
      have wfJ := wf_nz (HS_wf HJ)
      refine ev_iconst k100_34 ?_
      refine ev_ist3 k100_35 rfl ?_
      refine lp_faster (J0 := J) (N := nz (cells J 32)) (nc := nc) (np := np) (c := b) (nz_0 _) hp p6 (fun K eK fK => ?_) 100 0 J rfl rfl ⟨fun _ _ _ => rfl, fun _ _ => rfl⟩ wfJ (fun _ _ => rfl)
      have tK : tF I K := ⟨fun k hk => (fK k hk).trans (tJ.1 k hk), (show K 41 = J 41 from eK.1 9 (by decide) (by decide)).trans tJ.2.1, (show K 45 = J 45 from eK.1 13 (by decide) (by decide)).trans tJ.2.2⟩
      refine hQ _ _ ?_
      show mm_Ev mm_T0 X (d + 60) 213 0 [.ref 91, .int _, .int _, .retAddr 0, .retAddr 0] [] _ (mm_pi _)
      refine ev_ald0 k213_0 ?_
      refine ev_ild1 k213_1 ?_
      refine ev_cV2i k213_2 cs_245 (by first | assumption | rfl) (by omega) (Nat.le_of_ble_eq_true rfl) rfl rfl rfl ?_
      refine sm_cMember (show _ = nI np from (congrFun (wnS_ne (by decide)) 3).trans ((congrFun (tK.1 92 (by omega)) 3).trans rp)) ?_
      refine ev_ifz_eq k213_5 (fun g5 => Bool.noConfusion (Eq.trans (Eq.symm h5) g5)) (fun g5 => ?_)
      refine ev_ald0 k213_8 ?_
      refine ev_ild2 k213_9 ?_
      refine ev_cV2i k213_10 cs_239 (by first | assumption | rfl) (by omega) (Nat.le_of_ble_eq_true rfl) rfl rfl rfl ?_
      refine sm_cChair (show _ = nI nc from (congrFun (wnS_ne (by decide)) 2).trans ((congrFun (tK.1 92 (by omega)) 2).trans rc)) ?_
      refine ev_ifz_ne k213_13 (fun g13 => ?_) (fun g13 => Bool.noConfusion (Eq.trans (Eq.symm h13) g13))
      refine ev_ald0 k213_23 ?_
      refine ev_cV1v k213_24 cs_269 (by first | assumption | rfl) (by omega) (Nat.le_of_ble_eq_true rfl) rfl rfl rfl ?_
      refine sm_thinks ?_
      refine ev_iconst k213_27 ?_
      refine ev_ist3 k213_28 rfl ?_
      refine ev_bipush k213_29 ?_
      refine ev_ist4 k213_31 rfl ?_
      refine lm_faster (N := nz (cells J 32)) (nc := nc) (np := np) (c := b) hp p6 (show HS _ (cpA (wnS _ K) 92 94 321 92) nc np from by rw [cpA_ne (by decide), wnS_ne (by decide), tK.1 92 (by omega)]; exact HS_nz HJ) (fun j hj => by rw [cpA_at hj, cpA_ne (by decide)]) (fun L fL bL => ?_) 100 _ (by omega) (fun _ _ _ _ => rfl) (fun _ _ => rfl)
      generalize hfd : fsF (nz (cells J 32)) nc np p b = fd at fL bL ⊢
      have hfe : ∀ m2, fd = some m2 → m2 < 100 := fun m2 z => (by have := (fnd_some (hfd.trans z)).2.1; omega)
      rcases fd with _ | m2
      ·
        refine ev_ild3 k213_77 ?_
        refine ev_jf_ge k213_78 (fun g78 => absurd (show (-1 : Int32) < 0 by decide) g78) (fun g78 => ?_)
        refine ev_ald0 k213_81 ?_
        refine ev_ldc k213_82 ?_
        refine ev_cV2i k213_84 cs_238 (by first | assumption | rfl) (by omega) (Nat.le_of_ble_eq_true rfl) rfl rfl rfl ?_
        refine sm_error (k := 2) (by decide) (by decide) ?_
        refine ev_goto k213_87 ?_
        refine ev_ri k213_91 rfl ?_
        exact ⟨rfl, Inv_te inv tK (fun k a b c e => (fL k a c e).trans (cpA_ne b)) (fun j hj => (bL j hj).trans (by rw [cpA_ne (by decide)]; rfl))⟩
      ·
        refine ev_ild3 k213_77 ?_
        refine ev_jf_ge k213_78 (fun g78 => ?_) (fun g78 => absurd (show nI m2 < 0 from g78) (nI_pos (by have := hfe m2 rfl; omega)))
        refine ev_ild3 k213_90 ?_
        refine ev_ri k213_91 rfl ?_
        exact ⟨rfl, Inv_th inv tK (fun k a b c e => (fL k a c e).trans (cpA_ne b)) (fun j hj => (bL j hj).trans (by rw [cpA_ne (by decide)]; rfl))⟩
    ·
      refine ev_ald0 k100_16 ?_
      refine ev_ldc k100_17 ?_
      refine ev_cV2i k100_19 cs_174 (by first | assumption | rfl) (by omega) (Nat.le_of_ble_eq_true rfl) rfl rfl rfl ?_
      refine sp_error (k := 1) (by decide) (by decide) (by decide) ?_
      refine ev_ri k100_22 rfl ?_
      refine hQ _ _ ?_
      show mm_Ev mm_T0 X (d + 60) 213 0 [.ref 91, .int _, .int _, .retAddr 0, .retAddr 0] [] _ (mm_pi _)
      refine ev_ald0 k213_0 ?_
      refine ev_ild1 k213_1 ?_
      refine ev_cV2i k213_2 cs_245 (by first | assumption | rfl) (by omega) (Nat.le_of_ble_eq_true rfl) rfl rfl rfl ?_
      refine sm_cMember (show _ = nI np from rp) ?_
      refine ev_ifz_eq k213_5 (fun g5 => Bool.noConfusion (Eq.trans (Eq.symm h5) g5)) (fun g5 => ?_)
      refine ev_ald0 k213_8 ?_
      refine ev_ild2 k213_9 ?_
      refine ev_cV2i k213_10 cs_239 (by first | assumption | rfl) (by omega) (Nat.le_of_ble_eq_true rfl) rfl rfl rfl ?_
      refine sm_cChair (show _ = nI nc from rc) ?_
      refine ev_ifz_ne k213_13 (fun g13 => Bool.noConfusion (Eq.trans (Eq.symm h13) g13)) (fun g13 => ?_)
      refine ev_ald0 k213_16 ?_
      refine ev_ldc k213_17 ?_
      refine ev_cV2i k213_19 cs_238 (by first | assumption | rfl) (by omega) (Nat.le_of_ble_eq_true rfl) rfl rfl rfl ?_
      refine sm_error (k := 1) (by decide) (by decide) ?_
      refine ev_ri k213_22 rfl ?_
      first | exact ⟨rfl, Inv_e rfl rfl inv⟩ | exact ⟨rfl, inv⟩
