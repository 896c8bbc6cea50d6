/-! All run: who has run, which chairs are taken, who is where -/
def hRs (I : mm_I) (hb nc np : Nat) (q : Int32 × Int32 × (Nat → Int32)) : Int32 × Int32 × (Nat → Int32) :=
  (q.1 ||| (1 <<< (hFb I hb np q.1 &&& 31)),
   (if hDt I hb nc (hFb I hb np q.1).toNatClampNeg q.2.1 = -1 then q.2.1 else q.2.1 ||| (1 <<< (hDt I hb nc (hFb I hb np q.1).toNatClampNeg q.2.1 &&& 31))),
   upd q.2.2 (hFb I hb np q.1).toNatClampNeg (hDt I hb nc (hFb I hb np q.1).toNatClampNeg q.2.1))
def hRn (I : mm_I) (hb nc np : Nat) : Nat → Int32 := (fo (fun _ q => hRs I hb nc np q) np 0 (0, 0, I (hb + 8))).2.2
def hRI (I : mm_I) (hb : Nat) (a g : Nat → Int32) : mm_I := mm_rp (mm_rp I (hb + 8) a) (hb + 16) g
theorem hRI_ne {I : mm_I} {hb : Nat} {a g : Nat → Int32} {k : Nat} (h1 : k ≠ hb + 8) (h2 : k ≠ hb + 16) : hRI I hb a g k = I k := by
  unfold hRI
  rw [mm_rp_ne _ _ _ h2, mm_rp_ne _ _ _ h1]
theorem hFb_congr {I J : mm_I} {hb np : Nat} {r : Int32} (h : J (hb + 6) = I (hb + 6)) : hFb J hb np r = hFb I hb np r := by
  unfold hFb hFs
  rw [h]
theorem hDt_congr {I J : mm_I} {hb nc p : Nat} {t : Int32} (h : ∀ k, k ≠ hb + 5 → k ≠ hb + 8 → k ≠ hb + 12 → k ≠ hb + 16 → J k = I k) : hDt J hb nc p t = hDt I hb nc p t := by
  have e : hDs J hb p t = hDs I hb p t := by
    funext c q
    unfold hDs
    rw [hDz_congr h]
  unfold hDt
  rw [e]
theorem lp_runAll {X : Nat × (Nat → Int32)} {d : Nat} {I : mm_I} {hb nc np : Nat} {P : mm_I → Prop} (hh : hH hb) (ok : hOK I hb nc) (hm : I hb 7 = nI np) (hp : np ≤ 6)  : ∀ (n i : Nat) (r : Int32) (t : Int32) (a : Nat → Int32) (g : Nat → Int32) (v4 : Value) (v5 : Value), i + n = np → v4.category = 1 → (∀ g, P (hRI I hb (fo (fun _ q => hRs I hb nc np q) n i (r, t, a)).2.2 g)) → mm_Ev mm_T0 X (d + 4) 34 6 [.ref hb, .int r, .int t, .int (nI i), v4, v5] [] (hRI I hb a g) (mm_pv P) := by
  have t0 := tH0 hh
  have t8 := tH8 hh
  have hbl := hH_lt hh
  intro n
  induction n with
  | zero =>
    intro i r t a g v4 v5 hi hv4 hQ
    have e : i = np := by omega
    subst e
    refine ev_ild3 k34_6 ?_
    refine ev_ald0 k34_7 ?_
    refine ev_gf (j := 7) k34_8 (by first | assumption | rfl) rfl rfl rfl rfl ?_
    rw [hRI_ne (show hb ≠ hb + 8 by omega) (show hb ≠ hb + 16 by omega), hm]
    refine ev_jcmp_ge k34_11 (fun h11 => ?_) (fun h11 => absurd h11 (nI_nlt (Nat.le_refl _) (by omega)))
    refine ev_rv k34_65 rfl ?_
    exact hQ g
  | succ n ih =>
    intro i r t a g v4 v5 hi hv4 hQ
    have hlt : i < np := by omega
    refine ev_ild3 k34_6 ?_
    refine ev_ald0 k34_7 ?_
    refine ev_gf (j := 7) k34_8 (by first | assumption | rfl) rfl rfl rfl rfl ?_
    rw [hRI_ne (show hb ≠ hb + 8 by omega) (show hb ≠ hb + 16 by omega), hm]
    refine ev_jcmp_ge k34_11 (fun h11 => absurd (nI_lt hlt (by omega)) h11) (fun h11 => ?_)
    refine ev_ald0 k34_14 ?_
    refine ev_ild1 k34_15 ?_
    refine ev_cV2i k34_16 cs_117 (by first | assumption | rfl) (by omega) (Nat.le_of_ble_eq_true rfl) rfl rfl rfl ?_
    refine sp_fastestBut hh (np := np) (by rw [hRI_ne (show hb ≠ hb + 8 by omega) (show hb ≠ hb + 16 by omega), hm]) hp ?_
    rw [hFb_congr (I := I) (hRI_ne (by omega) (by omega))]
    obtain ⟨p, hp1, hp2⟩ := hFb_in (I := I) (hb := hb) (r := r) (show 0 < np by omega)
    rw [hp2]
    refine ev_ist4 k34_19 rfl ?_
    refine ev_ild1 k34_21 ?_
    refine ev_iconst k34_22 ?_
    refine ev_ild4 k34_23 ?_
    refine ev_ishl k34_25 ?_
    refine ev_ior k34_26 ?_
    refine ev_ist1 k34_27 rfl ?_
    refine ev_ald0 k34_28 ?_
    refine ev_ild4 k34_29 ?_
    refine ev_ild2 k34_31 ?_
    refine ev_cV3i k34_32 cs_118 (by first | assumption | rfl) (by omega) (Nat.le_of_ble_eq_true rfl) rfl rfl rfl ?_
    refine sp_dearestTo hh (nc := nc) (hOK_congr2 (fun k a b c d => hRI_ne b d) ok) (by omega) (fun g2 => ?_)
    rw [hDt_congr (I := I) (fun k a b c d => hRI_ne b d)]
    refine ev_ist5 k34_35 rfl ?_
    refine ev_ald0 k34_37 ?_
    refine ev_getr k34_38 (by first | assumption | rfl) rfl rfl rfl ?_
    refine ev_ild4 k34_41 ?_
    refine ev_ild5 k34_43 ?_
    refine ev_ias (j := p) k34_45 (by first | assumption | rfl) (nI_clamp (by omega)) (vp_in_nI (show p < 6 by omega) (by omega)) ?_
    refine ev_ild5 k34_46 ?_
    refine ev_iconst k34_48 ?_
    refine ev_icmp_eq k34_49 (fun h49 => ?_) (fun h49 => ?_)
    ·
      refine ev_inc3 k34_59 rfl ?_
      refine ev_goto k34_62 ?_
      rw [nI_1]
      have e2 : mm_up (mm_rp (hRI I hb a g) (hb + 16) g2) (hb + 8) p (hDt I hb nc p t) = hRI I hb (upd a p (hDt I hb nc p t)) g2 := by
        funext k j
        by_cases k1 : k = hb + 8
        · subst k1
          by_cases k2 : j = p <;> simp [mm_up_at, hRI, mm_rp, upd, k2]
        · by_cases k3 : k = hb + 16 <;> simp [mm_up_at, hRI, mm_rp, k1, k3]
      rw [e2]
      refine ih (i + 1) _ _ _ _ _ _ (by omega) rfl ?_
      have e4 : hRs I hb nc np (r, t, a) = (r ||| (1 <<< (nI p &&& 31)), (if hDt I hb nc p t = -1 then t else t ||| (1 <<< (hDt I hb nc p t &&& 31))), upd a p (hDt I hb nc p t)) := by
        unfold hRs
        dsimp only
        rw [hp2, nI_clamp (by omega)]
      first | rw [if_pos h49] at e4 | rw [if_neg h49] at e4
      simp only [fo, e4] at hQ
      exact hQ
    ·
      refine ev_ild2 k34_52 ?_
      refine ev_iconst k34_53 ?_
      refine ev_ild5 k34_54 ?_
      refine ev_ishl k34_56 ?_
      refine ev_ior k34_57 ?_
      refine ev_ist2 k34_58 rfl ?_
      refine ev_inc3 k34_59 rfl ?_
      refine ev_goto k34_62 ?_
      rw [nI_1]
      have e2 : mm_up (mm_rp (hRI I hb a g) (hb + 16) g2) (hb + 8) p (hDt I hb nc p t) = hRI I hb (upd a p (hDt I hb nc p t)) g2 := by
        funext k j
        by_cases k1 : k = hb + 8
        · subst k1
          by_cases k2 : j = p <;> simp [mm_up_at, hRI, mm_rp, upd, k2]
        · by_cases k3 : k = hb + 16 <;> simp [mm_up_at, hRI, mm_rp, k1, k3]
      rw [e2]
      refine ih (i + 1) _ _ _ _ _ _ (by omega) rfl ?_
      have e4 : hRs I hb nc np (r, t, a) = (r ||| (1 <<< (nI p &&& 31)), (if hDt I hb nc p t = -1 then t else t ||| (1 <<< (hDt I hb nc p t &&& 31))), upd a p (hDt I hb nc p t)) := by
        unfold hRs
        dsimp only
        rw [hp2, nI_clamp (by omega)]
      first | rw [if_pos h49] at e4 | rw [if_neg h49] at e4
      simp only [fo, e4] at hQ
      exact hQ
/-- House.runAll -/
theorem sp_runAll {X : Nat × (Nat → Int32)} {d : Nat} {I : mm_I} {hb nc np : Nat} {P : mm_I → Prop} (hh : hH hb) (ok : hOK I hb nc) (hm : I hb 7 = nI np) (hp : np ≤ 6) (hQ : ∀ g, P (hRI I hb (hRn I hb nc np) g)) : mm_Ev mm_T0 X (d + 4) 34 0 (mm_ent 34 [.ref hb]) [] I (mm_pv P) := by
  show mm_Ev mm_T0 X (d + 4) 34 0 [.ref hb, .retAddr 0, .retAddr 0, .retAddr 0, .retAddr 0, .retAddr 0] [] I (mm_pv P)
  refine ev_iconst k34_0 ?_
  refine ev_ist1 k34_1 rfl ?_
  refine ev_iconst k34_2 ?_
  refine ev_ist2 k34_3 rfl ?_
  refine ev_iconst k34_4 ?_
  refine ev_ist3 k34_5 rfl ?_
  have e : hRI I hb (I (hb + 8)) (I (hb + 16)) = I := by
    unfold hRI
    rw [mm_rp_self, mm_rp_self]
  have h := lp_runAll (X := X) (d := d) (P := P) hh ok hm hp np 0 0 0 (I (hb + 8)) (I (hb + 16)) (.retAddr 0) (.retAddr 0) (by omega) rfl hQ
  rw [e] at h
  exact h
/-- House.draw -/
theorem sp_draw {X : Nat × (Nat → Int32)} {d : Nat} {I : mm_I} {hb : Nat} {P : Int32 → mm_I → Prop} (hh : hH hb) (hQ : P (us (I hb 17 * 1103515245 + 12345) 8) (mm_up I hb 17 (I hb 17 * 1103515245 + 12345))) : mm_Ev mm_T0 X (d) 39 0 (mm_ent 39 [.ref hb]) [] I (mm_pi P) := by
  show mm_Ev mm_T0 X (d) 39 0 [.ref hb] [] I (mm_pi P)
  have t0 := tH0 hh
  have hbl := hH_lt hh
  refine ev_ald0 k39_0 ?_
  refine ev_ald0 k39_1 ?_
  refine ev_gf (j := 17) k39_2 (by first | assumption | rfl) rfl rfl rfl rfl ?_
  refine ev_ldc k39_5 ?_
  refine ev_imul k39_7 ?_
  refine ev_sipush k39_8 ?_
  refine ev_iadd k39_11 ?_
  refine ev_pf (j := 17) k39_12 (by first | assumption | rfl) rfl rfl rfl ?_
  refine ev_ald0 k39_15 ?_
  refine ev_gf (j := 17) k39_16 (by first | assumption | rfl) rfl rfl rfl rfl ?_
  have e1 : mm_up I hb 17 (I hb 17 * 1103515245 + 12345) hb 17 = I hb 17 * 1103515245 + 12345 := by simp [mm_up_at]
  rw [e1]
  refine ev_bipush k39_19 ?_
  refine ev_iushr k39_21 ?_
  refine ev_ri k39_22 rfl ?_
  exact hQ
/-- House.addMember -/
theorem sp_addMember {X : Nat × (Nat → Int32)} {d : Nat} {I : mm_I} {hb p : Nat} {h : Int32} {P : Int32 → mm_I → Prop} (hh : hH hb) (hm : I hb 7 = nI p) (hp : p < 6) (hQ : P (nI p) (mm_up (mm_up (mm_up (mm_up I (hb + 6) p 10) (hb + 7) p h) (hb + 8) p (-1)) hb 7 (nI (p + 1)))) : mm_Ev mm_T0 X (d) 22 0 (mm_ent 22 [.ref hb, .int h]) [] I (mm_pi P) := by
  show mm_Ev mm_T0 X (d) 22 0 [.ref hb, .int h, .retAddr 0] [] I (mm_pi P)
  have t0 := tH0 hh
  have t6 := tH6 hh
  have t7 := tH7 hh
  have t8 := tH8 hh
  have hbl := hH_lt hh
  refine ev_ald0 k22_0 ?_
  refine ev_gf (j := 7) k22_1 (by first | assumption | rfl) rfl rfl rfl rfl ?_
  rw [hm]
  refine ev_ist2 k22_4 rfl ?_
  refine ev_ald0 k22_5 ?_
  refine ev_getr k22_6 (by first | assumption | rfl) rfl rfl rfl ?_
  refine ev_ild2 k22_9 ?_
  refine ev_bipush k22_10 ?_
  refine ev_ias (j := p) k22_12 (by first | assumption | rfl) (nI_clamp (by omega)) (vp_in_nI hp (by omega)) ?_
  refine ev_ald0 k22_13 ?_
  refine ev_getr k22_14 (by first | assumption | rfl) rfl rfl rfl ?_
  refine ev_ild2 k22_17 ?_
  refine ev_ild1 k22_18 ?_
  refine ev_ias (j := p) k22_19 (by first | assumption | rfl) (nI_clamp (by omega)) (vp_in_nI hp (by omega)) ?_
  refine ev_ald0 k22_20 ?_
  refine ev_getr k22_21 (by first | assumption | rfl) rfl rfl rfl ?_
  refine ev_ild2 k22_24 ?_
  refine ev_iconst k22_25 ?_
  refine ev_ias (j := p) k22_26 (by first | assumption | rfl) (nI_clamp (by omega)) (vp_in_nI hp (by omega)) ?_
  refine ev_ald0 k22_27 ?_
  refine ev_dup k22_28 rfl ?_
  refine ev_gf (j := 7) k22_29 (by first | assumption | rfl) rfl rfl rfl rfl ?_
  have e1 : mm_up (mm_up (mm_up I (hb + 6) p 10) (hb + 7) p h) (hb + 8) p (-1) hb 7 = nI p := by simp [mm_up_at, hm]
  rw [e1]
  refine ev_iconst k22_32 ?_
  refine ev_iadd k22_33 ?_
  rw [nI_1]
  refine ev_pf (j := 7) k22_34 (by first | assumption | rfl) rfl rfl rfl ?_
  refine ev_ild2 k22_37 ?_
  refine ev_ri k22_38 rfl ?_
  exact hQ
/-- House.addChair -/
theorem sp_addChair {X : Nat × (Nat → Int32)} {d : Nat} {I : mm_I} {hb p : Nat} {km v : Int32} {P : Int32 → mm_I → Prop} (hh : hH hb) (hm : I hb 1 = nI p) (hp : p < 6) (hQ : P (nI p) (mm_up (mm_up (mm_up (mm_up (mm_up I (hb + 1) p (km / 10)) (hb + 2) p (km - km / 10 * 10)) (hb + 3) p v) (hb + 4) p 0) hb 1 (nI (p + 1)))) : mm_Ev mm_T0 X (d) 21 0 (mm_ent 21 [.ref hb, .int km, .int v]) [] I (mm_pi P) := by
  show mm_Ev mm_T0 X (d) 21 0 [.ref hb, .int km, .int v, .retAddr 0] [] I (mm_pi P)
  have t0 := tH0 hh
  have t1 := tH1 hh
  have t2 := tH2 hh
  have t3 := tH3 hh
  have t4 := tH4 hh
  have hbl := hH_lt hh
  refine ev_ald0 k21_0 ?_
  refine ev_gf (j := 1) k21_1 (by first | assumption | rfl) rfl rfl rfl rfl ?_
  rw [hm]
  refine ev_ist3 k21_4 rfl ?_
  refine ev_ald0 k21_5 ?_
  refine ev_getr k21_6 (by first | assumption | rfl) rfl rfl rfl ?_
  refine ev_ild3 k21_9 ?_
  refine ev_ild1 k21_10 ?_
  refine ev_bipush k21_11 ?_
  refine ev_idiv k21_13 (by decide) ?_
  refine ev_ias (j := p) k21_14 (by first | assumption | rfl) (nI_clamp (by omega)) (vp_in_nI hp (by omega)) ?_
  refine ev_ald0 k21_15 ?_
  refine ev_getr k21_16 (by first | assumption | rfl) rfl rfl rfl ?_
  refine ev_ild3 k21_19 ?_
  refine ev_ild1 k21_20 ?_
  refine ev_bipush k21_21 ?_
  refine ev_irem k21_23 (by decide) ?_
  refine ev_ias (j := p) k21_24 (by first | assumption | rfl) (nI_clamp (by omega)) (vp_in_nI hp (by omega)) ?_
  refine ev_ald0 k21_25 ?_
  refine ev_getr k21_26 (by first | assumption | rfl) rfl rfl rfl ?_
  refine ev_ild3 k21_29 ?_
  refine ev_ild2 k21_30 ?_
  refine ev_ias (j := p) k21_31 (by first | assumption | rfl) (nI_clamp (by omega)) (vp_in_nI hp (by omega)) ?_
  refine ev_ald0 k21_32 ?_
  refine ev_getr k21_33 (by first | assumption | rfl) rfl rfl rfl ?_
  refine ev_ild3 k21_36 ?_
  refine ev_iconst k21_37 ?_
  refine ev_ias (j := p) k21_38 (by first | assumption | rfl) (nI_clamp (by omega)) (vp_in_nI hp (by omega)) ?_
  refine ev_ald0 k21_39 ?_
  refine ev_dup k21_40 rfl ?_
  refine ev_gf (j := 1) k21_41 (by first | assumption | rfl) rfl rfl rfl rfl ?_
  have e1 : mm_up (mm_up (mm_up (mm_up I (hb + 1) p (km / 10)) (hb + 2) p (km - km / 10 * 10)) (hb + 3) p v) (hb + 4) p 0 hb 1 = nI p := by simp [mm_up_at, hm]
  rw [e1]
  refine ev_iconst k21_44 ?_
  refine ev_iadd k21_45 ?_
  rw [nI_1]
  refine ev_pf (j := 1) k21_46 (by first | assumption | rfl) rfl rfl rfl ?_
  refine ev_ild3 k21_49 ?_
  refine ev_ri k21_50 rfl ?_
  exact hQ
